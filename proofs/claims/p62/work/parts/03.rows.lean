/-! what holds all through a method: the machine, the code, the class, the words, the classes' tables -/
def Cx (g : GP) (p : Program) (s : State) (m : MethodId) (args : Array Value) (c : Code) (cc : ByteArray) (own : String) (Ts : List Cond) (nL : Nat) : Prop := p.tables.exec = Jvm.exec ∧ c.code = cc ∧ c.maxLocals = nL ∧ s.vm.findClass own = some m.cls ∧ (∀ w ∈ Ts, w.before args s = true) ∧ va_K (gD g) vwCl (gT g) s
/-- links among nest mates -/
def NWl : List Cond := [.fieldLinkNest "MailSpool" 109 "MailSpool$Names" "size" "I" "MailSpool",
  .fieldLinkNest "MailSpool$Parser" 137 "MailSpool$Names" "size" "I" "MailSpool",
  .fieldLinkNest "MailSpool$Rules" 73 "MailSpool$Names" "size" "I" "MailSpool",
  .fieldLinkNest "MailSpool$Spool" 120 "MailSpool$Names" "size" "I" "MailSpool",
  .fieldLinkNest "MailSpool$Parser" 89 "MailSpool$Rules" "grace" "I" "MailSpool",
  .fieldLinkNest "MailSpool$Parser" 95 "MailSpool$Rules" "interval" "I" "MailSpool",
  .fieldLinkNest "MailSpool$Parser" 101 "MailSpool$Rules" "classes" "LMailSpool$Names;" "MailSpool",
  .fieldLinkNest "MailSpool" 426 "MailSpool$Rules" "classes" "LMailSpool$Names;" "MailSpool",
  .fieldLinkNest "MailSpool" 105 "MailSpool$Rules" "users" "LMailSpool$Names;" "MailSpool",
  .fieldLinkNest "MailSpool$Parser" 134 "MailSpool$Rules" "users" "LMailSpool$Names;" "MailSpool",
  .fieldLinkNest "MailSpool$Spool" 102 "MailSpool$Rules" "users" "LMailSpool$Names;" "MailSpool",
  .fieldLinkNest "MailSpool$Spool" 244 "MailSpool$Rules" "userClass" "[I" "MailSpool",
  .fieldLinkNest "MailSpool$Spool" 81 "MailSpool$Rules" "userQuota" "[I" "MailSpool",
  .fieldLinkNest "MailSpool$Parser" 138 "MailSpool$Rules" "groups" "LMailSpool$Names;" "MailSpool",
  .fieldLinkNest "MailSpool$Parser" 203 "MailSpool$Rules" "groupMembers" "[I" "MailSpool",
  .fieldLinkNest "MailSpool$Parser" 160 "MailSpool$Rules" "holds" "LMailSpool$Names;" "MailSpool",
  .fieldLinkNest "MailSpool$Spool" 232 "MailSpool$Rules" "holds" "LMailSpool$Names;" "MailSpool",
  .fieldLinkNest "MailSpool$Spool" 238 "MailSpool$Rules" "holdFrom" "[I" "MailSpool",
  .fieldLinkNest "MailSpool$Spool" 241 "MailSpool$Rules" "holdTo" "[I" "MailSpool",
  .fieldLinkNest "MailSpool" 57 "MailSpool$Bytes" "size" "I" "MailSpool",
  .fieldLinkNest "MailSpool$Content" 26 "MailSpool$Bytes" "size" "I" "MailSpool",
  .fieldLinkNest "MailSpool$Parser" 33 "MailSpool$Bytes" "size" "I" "MailSpool",
  .fieldLinkNest "MailSpool$Store" 63 "MailSpool$Bytes" "size" "I" "MailSpool",
  .fieldLinkNest "MailSpool$Store" 76 "MailSpool$Content" "places" "I" "MailSpool",
  .fieldLinkNest "MailSpool$Spool" 203 "MailSpool$Content" "places" "I" "MailSpool",
  .fieldLinkNest "MailSpool" 254 "MailSpool$Store" "stored" "I" "MailSpool",
  .fieldLinkNest "MailSpool" 275 "MailSpool$Store" "firstMessage" "[I" "MailSpool",
  .fieldLinkNest "MailSpool" 269 "MailSpool$Store" "keepers" "[I" "MailSpool",
  .fieldLinkNest "MailSpool" 272 "MailSpool$Store" "deadSince" "[I" "MailSpool",
  .fieldLinkNest "MailSpool" 392 "MailSpool$Journal" "size" "I" "MailSpool",
  .fieldLinkNest "MailSpool" 212 "MailSpool$Message" "sender" "I" "MailSpool",
  .fieldLinkNest "MailSpool" 217 "MailSpool$Message" "day" "I" "MailSpool",
  .fieldLinkNest "MailSpool$Spool" 134 "MailSpool$Message" "size" "I" "MailSpool",
  .fieldLinkNest "MailSpool" 221 "MailSpool$Message" "size" "I" "MailSpool",
  .fieldLinkNest "MailSpool$Spool" 156 "MailSpool$Message" "parts" "[I" "MailSpool",
  .fieldLinkNest "MailSpool" 218 "MailSpool$Message" "parts" "[I" "MailSpool",
  .fieldLinkNest "MailSpool$Spool" 127 "MailSpool$Message" "holds" "I" "MailSpool",
  .fieldLinkNest "MailSpool" 104 "MailSpool$Spool" "rules" "LMailSpool$Rules;" "MailSpool",
  .fieldLinkNest "MailSpool" 166 "MailSpool$Spool" "day" "I" "MailSpool",
  .fieldLinkNest "MailSpool" 202 "MailSpool$Spool" "bouncedUsers" "I" "MailSpool",
  .fieldLinkNest "MailSpool" 183 "MailSpool$Spool" "messageCount" "I" "MailSpool",
  .fieldLinkNest "MailSpool" 241 "MailSpool$Spool" "entered" "[I" "MailSpool",
  .fieldLinkNest "MailSpool" 186 "MailSpool$Spool" "store" "LMailSpool$Store;" "MailSpool",
  .fieldLinkNest "MailSpool" 388 "MailSpool$Spool" "journal" "LMailSpool$Journal;" "MailSpool",
  .methodLinkNest "MailSpool$Spool" 112 ⟨"MailSpool", "at", "([II)I"⟩ "MailSpool",
  .methodLinkNest "MailSpool$Store" 48 ⟨"MailSpool", "at", "([II)I"⟩ "MailSpool",
  .methodLinkNest "MailSpool$Spool" 181 ⟨"MailSpool", "put", "([III)V"⟩ "MailSpool",
  .methodLinkNest "MailSpool$Bytes" 37 ⟨"MailSpool", "isLetter", "(I)Z"⟩ "MailSpool",
  .methodLinkNest "MailSpool$Bytes" 41 ⟨"MailSpool", "withLetter", "(JI)J"⟩ "MailSpool",
  .fieldLinkNest "MailSpool" 97 "MailSpool$Parser" "rules" "LMailSpool$Rules;" "MailSpool",
  .fieldLinkNest "MailSpool" 85 "MailSpool$Parser" "errorCode" "I" "MailSpool",
  .fieldLinkNest "MailSpool" 91 "MailSpool$Parser" "errorPosition" "I" "MailSpool",
  .methodLinkNest "MailSpool$Parser" 223 ⟨"MailSpool", "isLetter", "(I)Z"⟩ "MailSpool",
  .methodLinkNest "MailSpool$Parser" 235 ⟨"MailSpool", "withLetter", "(JI)J"⟩ "MailSpool",
  .fieldLinkNest "MailSpool$Parser" 239 "MailSpool" "KEYWORDS" "[LMailSpool$Keyword;" "MailSpool",
  .methodLinkNest "MailSpool$Parser" 229 ⟨"MailSpool", "isDigit", "(I)Z"⟩ "MailSpool",
  .methodLinkNest "MailSpool$Rules" 69 ⟨"MailSpool", "put", "([III)V"⟩ "MailSpool",
  .methodLinkNest "MailSpool$Parser" 207 ⟨"MailSpool", "at", "([II)I"⟩ "MailSpool",
  .methodLinkNest "MailSpool$Spool" 84 ⟨"MailSpool", "copyRow", "([I[I)V"⟩ "MailSpool",
  .methodLinkNest "MailSpool$Store" 44 ⟨"MailSpool", "copyRow", "([I[I)V"⟩ "MailSpool",
  .methodLinkNest "MailSpool$Journal" 28 ⟨"MailSpool", "copyRow", "([I[I)V"⟩ "MailSpool",
  .methodLinkNest "MailSpool$Content" 35 ⟨"MailSpool", "put", "([III)V"⟩ "MailSpool",
  .methodLinkNest "MailSpool$Content" 39 ⟨"MailSpool", "at", "([II)I"⟩ "MailSpool",
  .methodLinkNest "MailSpool$Spool" 226 ⟨"MailSpool", "hasBit", "(II)Z"⟩ "MailSpool",
  .methodLinkNest "MailSpool$Journal" 32 ⟨"MailSpool", "put", "([III)V"⟩ "MailSpool",
  .methodLinkNest "MailSpool$Store" 93 ⟨"MailSpool", "put", "([III)V"⟩ "MailSpool",
  .fieldLinkNest "MailSpool$Parser" 243 "MailSpool$Keyword" "word" "J" "MailSpool"]
theorem NWl_in : ∀ w ∈ NWl, w ∈ lw_tbl := by decide +kernel
def isNw : Cond → Bool
  | .fieldLinkNest _ _ _ _ _ _ => true
  | .methodLinkNest _ _ _ _ => true
  | _ => false
theorem NWl_is : ∀ w ∈ NWl, isNw w = true := by decide +kernel
/-- the constants of the enum of words, and the words of the model's texts -/
def kwN : List String := ["SPOOL", "GRACE", "ROUND", "CLASS", "DAYS", "FOREVER", "KEEP", "THEN", "USER", "QUOTA", "GROUP", "HOLD", "FROM", "TO", "WORD"]
def kwW : List Int64 := [10423659, 4075196, 9876874, 1831780, 80155, 2549437083, 220309, 399641, 427347, 9459316, 4085899, 168727, 131638, 555, 464134]
def msI : List (Nat × Nat × String) := [(53, 0, "spool grace "), (64, 1, " round "), (72, 2, ";"), (74, 3, "class c"), (79, 4, " days "), (85, 5, "forever"), (90, 6, " keep "), (95, 7, " then c"), (97, 8, "user u"), (99, 9, " class c"), (104, 10, " quota "), (112, 11, "hold h"), (114, 12, " user u"), (123, 13, " from 0 to 3"), (128, 14, " word ab"), (158, 15, "ab"), (160, 16, "ab cd"), (162, 17, "cdab"), (164, 18, "x9 ab"), (166, 19, "zz zz zz"), (168, 20, "q"), (191, 21, "spool grace 1 round 2;"), (194, 22, "class a days 5;"), (196, 23, "user b class a quota 9;"), (198, 24, ""), (204, 25, "spool grace 31 round 1;"), (206, 26, "user a class b quota 1;"), (208, 27, "class days days 1;"), (210, 28, "class a days 0;"), (212, 29, "class a days 1;"), (214, 30, "class b days 1 then b;"), (216, 31, "class b days 1 keep 100;"), (218, 32, "group g a;"), (220, 33, "user b class c quota 1;"), (222, 34, "group b b;"), (224, 35, "group g g;"), (226, 36, "hold h user c;"), (228, 37, "hold h user b from 5 to 4;"), (230, 38, "hold h user b word abcdefghijk;"), (232, 39, "class k"), (234, 40, " days 1;")]
def msL : List Nat := [12, 7, 1, 7, 6, 7, 6, 7, 6, 8, 7, 6, 7, 12, 8, 2, 5, 4, 5, 8, 1, 22, 15, 23, 0, 23, 23, 18, 15, 15, 22, 24, 10, 23, 10, 10, 14, 26, 31, 7, 8]
def msB : List (List Int32) := [[115, 112, 111, 111, 108, 32, 103, 114, 97, 99, 101, 32], [32, 114, 111, 117, 110, 100, 32], [59], [99, 108, 97, 115, 115, 32, 99], [32, 100, 97, 121, 115, 32], [102, 111, 114, 101, 118, 101, 114], [32, 107, 101, 101, 112, 32], [32, 116, 104, 101, 110, 32, 99], [117, 115, 101, 114, 32, 117], [32, 99, 108, 97, 115, 115, 32, 99], [32, 113, 117, 111, 116, 97, 32], [104, 111, 108, 100, 32, 104], [32, 117, 115, 101, 114, 32, 117], [32, 102, 114, 111, 109, 32, 48, 32, 116, 111, 32, 51], [32, 119, 111, 114, 100, 32, 97, 98], [97, 98], [97, 98, 32, 99, 100], [99, 100, 97, 98], [120, 57, 32, 97, 98], [122, 122, 32, 122, 122, 32, 122, 122], [113], [115, 112, 111, 111, 108, 32, 103, 114, 97, 99, 101, 32, 49, 32, 114, 111, 117, 110, 100, 32, 50, 59], [99, 108, 97, 115, 115, 32, 97, 32, 100, 97, 121, 115, 32, 53, 59], [117, 115, 101, 114, 32, 98, 32, 99, 108, 97, 115, 115, 32, 97, 32, 113, 117, 111, 116, 97, 32, 57, 59], [], [115, 112, 111, 111, 108, 32, 103, 114, 97, 99, 101, 32, 51, 49, 32, 114, 111, 117, 110, 100, 32, 49, 59], [117, 115, 101, 114, 32, 97, 32, 99, 108, 97, 115, 115, 32, 98, 32, 113, 117, 111, 116, 97, 32, 49, 59], [99, 108, 97, 115, 115, 32, 100, 97, 121, 115, 32, 100, 97, 121, 115, 32, 49, 59], [99, 108, 97, 115, 115, 32, 97, 32, 100, 97, 121, 115, 32, 48, 59], [99, 108, 97, 115, 115, 32, 97, 32, 100, 97, 121, 115, 32, 49, 59], [99, 108, 97, 115, 115, 32, 98, 32, 100, 97, 121, 115, 32, 49, 32, 116, 104, 101, 110, 32, 98, 59], [99, 108, 97, 115, 115, 32, 98, 32, 100, 97, 121, 115, 32, 49, 32, 107, 101, 101, 112, 32, 49, 48, 48, 59], [103, 114, 111, 117, 112, 32, 103, 32, 97, 59], [117, 115, 101, 114, 32, 98, 32, 99, 108, 97, 115, 115, 32, 99, 32, 113, 117, 111, 116, 97, 32, 49, 59], [103, 114, 111, 117, 112, 32, 98, 32, 98, 59], [103, 114, 111, 117, 112, 32, 103, 32, 103, 59], [104, 111, 108, 100, 32, 104, 32, 117, 115, 101, 114, 32, 99, 59], [104, 111, 108, 100, 32, 104, 32, 117, 115, 101, 114, 32, 98, 32, 102, 114, 111, 109, 32, 53, 32, 116, 111, 32, 52, 59], [104, 111, 108, 100, 32, 104, 32, 117, 115, 101, 114, 32, 98, 32, 119, 111, 114, 100, 32, 97, 98, 99, 100, 101, 102, 103, 104, 105, 106, 107, 59], [99, 108, 97, 115, 115, 32, 107], [32, 100, 97, 121, 115, 32, 49, 59]]
/-- the digits of 0 .. 99: ones and tens -/
def dgO : List Int32 := [48, 49, 50, 51, 52, 53, 54, 55, 56, 57, 48, 49, 50, 51, 52, 53, 54, 55, 56, 57, 48, 49, 50, 51, 52, 53, 54, 55, 56, 57, 48, 49, 50, 51, 52, 53, 54, 55, 56, 57, 48, 49, 50, 51, 52, 53, 54, 55, 56, 57, 48, 49, 50, 51, 52, 53, 54, 55, 56, 57, 48, 49, 50, 51, 52, 53, 54, 55, 56, 57, 48, 49, 50, 51, 52, 53, 54, 55, 56, 57, 48, 49, 50, 51, 52, 53, 54, 55, 56, 57, 48, 49, 50, 51, 52, 53, 54, 55, 56, 57]
def dgT : List Int32 := [48, 48, 48, 48, 48, 48, 48, 48, 48, 48, 49, 49, 49, 49, 49, 49, 49, 49, 49, 49, 50, 50, 50, 50, 50, 50, 50, 50, 50, 50, 51, 51, 51, 51, 51, 51, 51, 51, 51, 51, 52, 52, 52, 52, 52, 52, 52, 52, 52, 52, 53, 53, 53, 53, 53, 53, 53, 53, 53, 53, 54, 54, 54, 54, 54, 54, 54, 54, 54, 54, 55, 55, 55, 55, 55, 55, 55, 55, 55, 55, 56, 56, 56, 56, 56, 56, 56, 56, 56, 56, 57, 57, 57, 57, 57, 57, 57, 57, 57, 57]
def GE (g : GP) (A : Nat → Prop) (U : State) (H : Heap) : Prop := va_En "MailSpool$Keyword" "LMailSpool$Keyword;" kwN [] (gen g) A U H ∧ va_Ef 15 "MailSpool$Keyword" "word" "J" (fun j => .long (kwW.getD j 0)) (gen g) A U H ∧ va_Z "MailSpool" "KEYWORDS" "[LMailSpool$Keyword;" (.ref (gen g 15)) A U H ∧ va_T (.object "MailSpool$Keyword") (gen g 15) 15 (fun j => .ref (gen g j)) A U H
/-- the texts of the law: their objects, and their bytes -/
def MS (g : GP) (A : Nat → Prop) (U : State) (H : Heap) : Prop := ∀ i : Nat, i < 41 → va_O "java/lang/String" (gen g (100 + i)) A U H ∧ va_OF "java/lang/String" "coder" "B" (.int 0) (gen g (100 + i)) A U H ∧ va_OF "java/lang/String" "value" "[B" (.ref (gen g (200 + i))) (gen g (100 + i)) A U H ∧ va_T .byte (gen g (200 + i)) (msL.getD i 0) (fun j => .int ((msB.getD i []).getD j 0)) A U H
theorem MS.moved {g : GP} {A : Nat → Prop} {u U : State} {H : Heap} (hvm : u.vm.Alike U.vm) (h : MS g A u H) : MS g A U H := fun i hi => ⟨va_O.moved hvm (h i hi).1, va_OF.moved hvm (h i hi).2.1, va_OF.moved hvm (h i hi).2.2.1, va_T.moved hvm (h i hi).2.2.2⟩
theorem MS.kept {g : GP} {A : Nat → Prop} {U : State} {H H1 : Heap} (h : MS g A U H) (hq : ∀ a : Nat, a < H.size → ¬ A a → H1[a]? = H[a]?) : MS g A U H1 := fun i hi => ⟨(h i hi).1.kept hq, (h i hi).2.1.kept hq, (h i hi).2.2.1.kept hq, (h i hi).2.2.2.kept hq⟩
theorem MS.narrow {g : GP} {A B : Nat → Prop} {U : State} {H : Heap} (h : MS g A U H) (hAB : ∀ q, B q → A q) : MS g B U H := fun i hi => ⟨(h i hi).1.narrow hAB, (h i hi).2.1.narrow hAB, (h i hi).2.2.1.narrow hAB, (h i hi).2.2.2.narrow hAB⟩
def GN (g : GP) (A : Nat → Prop) (U : State) (H : Heap) : Prop := va_Z "java/lang/String" "COMPACT_STRINGS" "Z" (.int 1) A U H ∧ (∃ o : Option Nat, va_Z "jdk/internal/util/Preconditions" "SIOOBE_FORMATTER" "Ljava/util/function/BiFunction;" (va_rf o) A U H) ∧ va_Z "java/lang/Integer" "DigitOnes" "[B" (.ref (gen g 96)) A U H ∧ va_Z "java/lang/Integer" "DigitTens" "[B" (.ref (gen g 97)) A U H ∧ va_T .byte (gen g 96) 100 (fun j => .int (dgO.getD j 0)) A U H ∧ va_T .byte (gen g 97) 100 (fun j => .int (dgT.getD j 0)) A U H ∧ va_T .int (gen g 98) (gX g).2 (fun j => .int ((gX g).1 j)) A U H
def GM (g : GP) (A : Nat → Prop) (U : State) (H : Heap) : Prop := MS g A U H ∧ (∀ q ∈ msI, vk_R RL q.1 q.2.2 (gen g (100 + q.2.1)) U) ∧ GN g A U H
theorem GN.moved {g : GP} {A : Nat → Prop} {u U : State} {H : Heap} (hvm : u.vm.Alike U.vm) (h : GN g A u H) : GN g A U H := ⟨h.1.moved hvm, h.2.1.elim fun o ho => ⟨o, ho.moved hvm⟩, h.2.2.1.moved hvm, h.2.2.2.1.moved hvm, h.2.2.2.2.1.moved hvm, h.2.2.2.2.2.1.moved hvm, h.2.2.2.2.2.2.moved hvm⟩
theorem GN.kept {g : GP} {A : Nat → Prop} {U : State} {H H1 : Heap} (h : GN g A U H) (hq : ∀ a : Nat, a < H.size → ¬ A a → H1[a]? = H[a]?) : GN g A U H1 := ⟨h.1.kept hq, h.2.1.elim fun o ho => ⟨o, ho.kept hq⟩, h.2.2.1.kept hq, h.2.2.2.1.kept hq, h.2.2.2.2.1.kept hq, h.2.2.2.2.2.1.kept hq, h.2.2.2.2.2.2.kept hq⟩
theorem GN.narrow {g : GP} {A B : Nat → Prop} {U : State} {H : Heap} (h : GN g A U H) (hAB : ∀ q, B q → A q) : GN g B U H := ⟨h.1.narrow hAB, h.2.1.elim fun o ho => ⟨o, ho.narrow hAB⟩, h.2.2.1.narrow hAB, h.2.2.2.1.narrow hAB, h.2.2.2.2.1.narrow hAB, h.2.2.2.2.2.1.narrow hAB, h.2.2.2.2.2.2.narrow hAB⟩
theorem GE.moved {g : GP} {A : Nat → Prop} {u U : State} {H : Heap} (hvm : u.vm.Alike U.vm) (h : GE g A u H) : GE g A U H := ⟨h.1.moved hvm, h.2.1.moved hvm, h.2.2.1.moved hvm, h.2.2.2.moved hvm⟩
theorem GE.kept {g : GP} {A : Nat → Prop} {U : State} {H H1 : Heap} (h : GE g A U H) (hq : ∀ a : Nat, a < H.size → ¬ A a → H1[a]? = H[a]?) : GE g A U H1 := ⟨h.1.kept hq, h.2.1.kept hq, h.2.2.1.kept hq, h.2.2.2.kept hq⟩
theorem GE.narrow {g : GP} {A B : Nat → Prop} {U : State} {H : Heap} (h : GE g A U H) (hAB : ∀ q, B q → A q) : GE g B U H := ⟨h.1.narrow hAB, h.2.1.narrow hAB, h.2.2.1.narrow hAB, h.2.2.2.narrow hAB⟩
theorem GM.warm {g : GP} {A : Nat → Prop} {s U : State} {H : Heap} (hW : s.WarmedH U.vm) (h : GM g A s H) : GM g A U H := ⟨h.1.moved hW.alike, fun q hq => (h.2.1 q hq).warm hW, h.2.2.moved hW.alike⟩
theorem GM.same {g : GP} {A : Nat → Prop} {s U : State} {H : Heap} (hv : s.vm = U.vm) (h : GM g A s H) : GM g A U H := by
  have al : s.vm.Alike U.vm := by rw [hv]; exact Vm.Alike.refl _
  exact ⟨h.1.moved al, fun q hq => (h.2.1 q hq).same hv.symm, h.2.2.moved al⟩
theorem GM.kept {g : GP} {A : Nat → Prop} {U : State} {H H1 : Heap} (h : GM g A U H) (hq : ∀ a : Nat, a < H.size → ¬ A a → H1[a]? = H[a]?) : GM g A U H1 := ⟨h.1.kept hq, h.2.1, h.2.2.kept hq⟩
theorem GM.narrow {g : GP} {A B : Nat → Prop} {U : State} {H : Heap} (h : GM g A U H) (hAB : ∀ q, B q → A q) : GM g B U H := ⟨h.1.narrow hAB, h.2.1, h.2.2.narrow hAB⟩
/-- facts of the whole run, outside what a method may write -/
def GF (g : GP) (A : Nat → Prop) (U : State) (H : Heap) : Prop := (∀ w ∈ NWl, va_Nw w U) ∧ va_Nw (.castable "[B" "java/lang/Cloneable") U ∧ (va_AO "MailSpool$Bytes" U ∧ va_AO "MailSpool$Message" U ∧ va_AO "MailSpool$Spool" U) ∧ GE g A U H ∧ GM g A U H
theorem GF.warm {g : GP} {A : Nat → Prop} {s U : State} {H : Heap} (hW : s.WarmedH U.vm) (h : GF g A s H) : GF g A U H := by
  obtain ⟨h1, h2, ⟨h3, h4, h5⟩, h9, h10⟩ := h
  refine ⟨fun w hw => ?_, va_Nw.warmC hW h2, ⟨h3.moved hW.alike, h4.moved hW.alike, h5.moved hW.alike⟩, h9.moved hW.alike, h10.warm hW⟩
  have hz := h1 w hw
  have hq := NWl_is w hw
  cases w <;> first | (cases hq; done) | exact va_Nw.warmF hW hz | exact va_Nw.warmM hW hz
theorem GF.same {g : GP} {A : Nat → Prop} {s U : State} {H : Heap} (hv : s.vm = U.vm) (h : GF g A s H) : GF g A U H := by
  obtain ⟨h1, h2, ⟨h3, h4, h5⟩, h9, h10⟩ := h
  have al : s.vm.Alike U.vm := by rw [hv]; exact Vm.Alike.refl _
  refine ⟨fun w hw => ?_, va_Nw.same rfl hv h2, ⟨h3.moved al, h4.moved al, h5.moved al⟩, h9.moved al, h10.same hv⟩
  have hz := h1 w hw
  have hq := NWl_is w hw
  cases w <;> first | (cases hq; done) | exact va_Nw.same rfl hv hz
theorem GF.kept {g : GP} {A : Nat → Prop} {U : State} {H H1 : Heap} (h : GF g A U H) (hq : ∀ a : Nat, a < H.size → ¬ A a → H1[a]? = H[a]?) : GF g A U H1 := ⟨h.1, h.2.1, h.2.2.1, h.2.2.2.1.kept hq, h.2.2.2.2.kept hq⟩
theorem GF.narrow {g : GP} {A B : Nat → Prop} {U : State} {H : Heap} (h : GF g A U H) (hAB : ∀ q, B q → A q) : GF g B U H := ⟨h.1, h.2.1, h.2.2.1, h.2.2.2.1.narrow hAB, h.2.2.2.2.narrow hAB⟩
/-- a method's start and end -/
def PB (g : GP) (ad : Nat → Nat) (n : Nat) (K : Nat → Nat) (S : St) (sz : Nat) (U : State) : Prop := U.heap.size = sz ∧ va_P (gD g) vwCl (wd g ad n K S) U.heap ∧ va_K (gD g) vwCl (gT g) U ∧ va_D (fun _ => True) (wd g ad n K S) ∧ WT n K S ∧ GF g (dA ad n sz) U U.heap
def QB (g : GP) (ad : Nat → Nat) (n : Nat) (K : Nat → Nat) (S : St) (A : Nat → Prop) (P : Prop) (t : State) : Prop := Wb g ad n K S A t.heap ∧ P
def QR (o : Option Value) (B : State → Prop) (A : Nat → Prop) : Array Value → State → Outcome → State → Prop := fun _ st oc t => (oc = .returned o ∧ B t) ∧ va_F A st t
theorem x_blind {g : GP} {ad : Nat → Nat} {n : Nat} {K : Nat → Nat} {S : St} {sz : Nat} {av : List Value} : FrameBlind (va_Pc av (PB g ad n K S sz)) := by
  intro a U fr mk q
  obtain ⟨q0, q1, qP, qK, qD, qT, qG⟩ := q
  exact ⟨q0, q1, qP, va_K.moved (u := U) (U := U.calling fr mk a) (Vm.Alike.refl U.vm) qK, qD, qT, GF.same (s := U) (U := U.calling fr mk a) rfl qG⟩
theorem dA_of {g : GP} {ad : Nat → Nat} {n : Nat} {K : Nat → Nat} {S : St} {sz : Nat} {B : Nat → Prop} (h : va_D B (wd g ad n K S)) : va_D (dA ad n sz) (wd g ad n K S) := by
  refine h.weaken (fun k q hk _ => ?_)
  have hl := (List.getElem?_eq_some_iff.mp hk).1
  rw [wd_len] at hl
  rw [wd_get hl] at hk
  cases hk
  exact Or.inl ⟨k, hl, rfl⟩
theorem x_start {g : GP} {ad : Nat → Nat} {n : Nat} {K : Nat → Nat} {S : St} {sz : Nat} {av : List Value} {args : Array Value} {s : State} (h : va_Pc av (PB g ad n K S sz) args s) : args = av.toArray ∧ sz = s.heap.size ∧ Wb g ad n K S (dA ad n sz) s.heap ∧ va_K (gD g) vwCl (gT g) s ∧ GF g (dA ad n sz) s s.heap := by
  obtain ⟨q0, q1, qP, qK, qD, qT, qG⟩ := h
  exact ⟨q0, q1.symm, ⟨qP, dA_of qD, qT⟩, qK, qG⟩
section XR
variable {p : Program} {l : Launch} {e : Env} {R : Room} {s : State} {m : MethodId} {args : Array Value} {below : List Frame} {meth : Method} {c : Code} {H : Heap} {locs : List Loc} {cells slots : Nat} {Q : State → Prop}
variable {cc : ByteArray} {pc : Nat} {ls : Array Slot} {rest : List Value} {g : GP} {ad : Nat → Nat} {n : Nat} {K : Nat → Nat} {S : St} {A : Nat → Prop} {a i : Nat} {own : String} {Ts : List Cond} {nL : Nat}
theorem x_geti (f : Nat) {C Cr : String} {T : u_T} {N ci index : Nat} (k : Nat) (hC : Cx g p s m args c cc own Ts nL) (hin : ∀ w ∈ u_ws C T N, w ∈ Ts) (hW : Wb g ad n K S A H) (hi : i < n ∧ K i = ci) (ha : a = ad i) (hc : vwCl[ci]? = some (C, T, N)) (hk : k < N ∧ ob ci ∧ 100 * ci + k = f ∧ (tg ci)[k]? = some 0) (hT1 : (T k).1 = Cr) (hlink : (Cond.fieldLink own index Cr (T k).2.1 (T k).2.2.1).before args s = true) (hdg : decode cc pc = .ok (.getfield index, 3))
    (kk : W p l e R s m args below meth c H locs cells slots Q (F0 m (pc + 3) ls (.int (si S f i) :: rest))) : W p l e R s m args below meth c H locs cells slots Q (F0 m pc ls (.ref a :: rest)) := by
  obtain ⟨hx, hb, -, hown, hts, hK⟩ := hC
  subst ha
  have hw := wd_get (g := g) (ad := ad) (K := K) (S := S) hi.1
  rw [cE_obj hi.2 hk.2.1] at hw
  refine va_get (D := gD g) (ci := ci) (v := .int (si S f i)) hx hb hts hin hown hK hW.1 i hw hc k hk.1 hlink (fun x h => by rw [hT1] at h; exact h) ?_ hdg kk
  rw [fvs_get hk.2.2.2]
  show some (Value.int (si S (100 * ci + k) i)) = _
  rw [hk.2.2.1]
theorem x_getl (f : Nat) {C Cr : String} {T : u_T} {N ci index : Nat} (k : Nat) (hC : Cx g p s m args c cc own Ts nL) (hin : ∀ w ∈ u_ws C T N, w ∈ Ts) (hW : Wb g ad n K S A H) (hi : i < n ∧ K i = ci) (ha : a = ad i) (hc : vwCl[ci]? = some (C, T, N)) (hk : k < N ∧ ob ci ∧ 100 * ci + k = f ∧ (tg ci)[k]? = some 2) (hT1 : (T k).1 = Cr) (hlink : (Cond.fieldLink own index Cr (T k).2.1 (T k).2.2.1).before args s = true) (hdg : decode cc pc = .ok (.getfield index, 3))
    (kk : W p l e R s m args below meth c H locs cells slots Q (F0 m (pc + 3) ls (.long (sl S f i) :: rest))) : W p l e R s m args below meth c H locs cells slots Q (F0 m pc ls (.ref a :: rest)) := by
  obtain ⟨hx, hb, -, hown, hts, hK⟩ := hC
  subst ha
  have hw := wd_get (g := g) (ad := ad) (K := K) (S := S) hi.1
  rw [cE_obj hi.2 hk.2.1] at hw
  refine va_get (D := gD g) (ci := ci) (v := .long (sl S f i)) hx hb hts hin hown hK hW.1 i hw hc k hk.1 hlink (fun x h => by rw [hT1] at h; exact h) ?_ hdg kk
  rw [fvs_get hk.2.2.2]
  show some (Value.long (sl S (100 * ci + k) i)) = _
  rw [hk.2.2.1]
theorem x_getr (f : Nat) {C Cr : String} {T : u_T} {N ci index j : Nat} (k : Nat) (hC : Cx g p s m args c cc own Ts nL) (hin : ∀ w ∈ u_ws C T N, w ∈ Ts) (hW : Wb g ad n K S A H) (hi : i < n ∧ K i = ci) (ha : a = ad i) (hc : vwCl[ci]? = some (C, T, N)) (hk : k < N ∧ ob ci ∧ 100 * ci + k = f ∧ (tg ci)[k]? = some 1) (hT1 : (T k).1 = Cr) (hlink : (Cond.fieldLink own index Cr (T k).2.1 (T k).2.2.1).before args s = true) (hdg : decode cc pc = .ok (.getfield index, 3)) (hj : sr S f i = some j)
    (kk : W p l e R s m args below meth c H locs cells slots Q (F0 m (pc + 3) ls (.ref (ad j) :: rest))) : W p l e R s m args below meth c H locs cells slots Q (F0 m pc ls (.ref a :: rest)) := by
  obtain ⟨hx, hb, -, hown, hts, hK⟩ := hC
  subst ha
  have hw := wd_get (g := g) (ad := ad) (K := K) (S := S) hi.1
  rw [cE_obj hi.2 hk.2.1] at hw
  refine va_get (D := gD g) (ci := ci) (v := .ref (ad j)) hx hb hts hin hown hK hW.1 i hw hc k hk.1 hlink (fun x h => by rw [hT1] at h; exact h) ?_ hdg kk
  rw [fvs_get hk.2.2.2]
  show some (va_re ad (sr S (100 * ci + k) i)) = _
  rw [hk.2.2.1, hj]
  rfl
theorem x_rt {f j : Nat} (hW : Wb g ad n K S A H) (hj : sr S f i = some j) (kj : Nat) (hf : f ≠ 508 ∧ rk f = kj) : j < n ∧ K j = kj := by
  have h := hW.2.2.1 f i j hf.1 hj
  rw [hf.2] at h
  exact h
theorem x_puti (f : Nat) {C Cr : String} {T : u_T} {N ci index : Nat} {ty0 : Nat → FieldType} {v : Int32} (k : Nat) (hC : Cx g p s m args c cc own Ts nL) (hin : ∀ w ∈ u_ws C T N, w ∈ Ts) (hty : ∀ k, k < N → parseFieldDescriptor (T k).2.2.1 = some (ty0 k)) (hnm : ∀ a, a < N → ∀ b, b < N → a ≠ b → (T a).2.1 ≠ (T b).2.1) (hW : Wb g ad n K S A H) (hS : va_S A s.heap H locs) (hi : i < n ∧ K i = ci) (ha : a = ad i) (hc : vwCl[ci]? = some (C, T, N)) (hk : k < N ∧ ob ci ∧ 100 * ci + k = f ∧ (tg ci)[k]? = some 0) (hT1 : (T k).1 = Cr) (hlink : (Cond.fieldLink own index Cr (T k).2.1 (T k).2.2.1).before args s = true) (hfin : (T k).2.2.2 = false) {ty : FieldType} (hd : parseFieldDescriptor (T k).2.2.1 = some ty) (hn : narrow ty (.int v) = .int v) (hfit : fits ty (.int v) = true) (hdg : decode cc pc = .ok (.putfield index, 3))
    (kk : ∀ (S1 : St) (H1 : Heap) (locs1 : List Loc), S1 = ui S f i v → Wb g ad n K S1 A H1 → va_S A s.heap H1 locs1 → W p l e R s m args below meth c H1 locs1 cells slots Q (F0 m (pc + 3) ls rest)) : W p l e R s m args below meth c H locs cells slots Q (F0 m pc ls (.int v :: .ref a :: rest)) := by
  obtain ⟨hx, hb, -, hown, hts, hK⟩ := hC
  subst ha
  have hw := wd_get (g := g) (ad := ad) (K := K) (S := S) hi.1
  rw [cE_obj hi.2 hk.2.1] at hw
  have hl : k < (fvs g ad S ci i).length := by
    have := (List.getElem?_eq_some_iff.mp hk.2.2.2).1
    simpa [fvs] using this
  refine va_put (D := gD g) (ci := ci) (v := .int v) (ty := ty) hx hb hts hin ty0 hty hnm hown hK hW.1 hW.2.1 hS i hw hc k hk.1 hlink (fun x h => by rw [hT1] at h; exact h) hfin hd hn hfit hl hdg (fun H1 locs1 hP hD hS1 => ?_)
  have e : (wd g ad n K S).set i (ad i, .inr (ci, (fvs g ad S ci i).set k (.int v))) = wd g ad n K (ui S f i v) := by
    refine wd_set ?_ (fun j hj => cE_ui hj)
    rw [cE_obj hi.2 hk.2.1, fvs_set (S' := ui S f i v) hk.2.2.2]
    · show Value.int (si (ui S f i v) (100 * ci + k) i) = _
      rw [hk.2.2.1]
      simp [si, ui, up2]
    · intro j t' hj
      have hne : ¬ (100 * ci + j = f) := by omega
      unfold fv
      simp [si, sr, sl, ui, up2, hne]
  rw [e] at hP hD
  exact kk _ H1 locs1 rfl ⟨hP, hD, WT_ui hW.2.2⟩ hS1
theorem x_putl (f : Nat) {C Cr : String} {T : u_T} {N ci index : Nat} {ty0 : Nat → FieldType} {v : Int64} (k : Nat) (hC : Cx g p s m args c cc own Ts nL) (hin : ∀ w ∈ u_ws C T N, w ∈ Ts) (hty : ∀ k, k < N → parseFieldDescriptor (T k).2.2.1 = some (ty0 k)) (hnm : ∀ a, a < N → ∀ b, b < N → a ≠ b → (T a).2.1 ≠ (T b).2.1) (hW : Wb g ad n K S A H) (hS : va_S A s.heap H locs) (hi : i < n ∧ K i = ci) (ha : a = ad i) (hc : vwCl[ci]? = some (C, T, N)) (hk : k < N ∧ ob ci ∧ 100 * ci + k = f ∧ (tg ci)[k]? = some 2) (hT1 : (T k).1 = Cr) (hlink : (Cond.fieldLink own index Cr (T k).2.1 (T k).2.2.1).before args s = true) (hfin : (T k).2.2.2 = false) (hd : parseFieldDescriptor (T k).2.2.1 = some .long) (hdg : decode cc pc = .ok (.putfield index, 3))
    (kk : ∀ (S1 : St) (H1 : Heap) (locs1 : List Loc), S1 = ul S f i v → Wb g ad n K S1 A H1 → va_S A s.heap H1 locs1 → W p l e R s m args below meth c H1 locs1 cells slots Q (F0 m (pc + 3) ls rest)) : W p l e R s m args below meth c H locs cells slots Q (F0 m pc ls (.long v :: .ref a :: rest)) := by
  obtain ⟨hx, hb, -, hown, hts, hK⟩ := hC
  subst ha
  have hw := wd_get (g := g) (ad := ad) (K := K) (S := S) hi.1
  rw [cE_obj hi.2 hk.2.1] at hw
  have hl : k < (fvs g ad S ci i).length := by
    have := (List.getElem?_eq_some_iff.mp hk.2.2.2).1
    simpa [fvs] using this
  refine va_put (D := gD g) (ci := ci) (v := .long v) (ty := .long) hx hb hts hin ty0 hty hnm hown hK hW.1 hW.2.1 hS i hw hc k hk.1 hlink (fun x h => by rw [hT1] at h; exact h) hfin hd rfl rfl hl hdg (fun H1 locs1 hP hD hS1 => ?_)
  have e : (wd g ad n K S).set i (ad i, .inr (ci, (fvs g ad S ci i).set k (.long v))) = wd g ad n K (ul S f i v) := by
    refine wd_set ?_ (fun j hj => cE_ul hj)
    rw [cE_obj hi.2 hk.2.1, fvs_set (S' := ul S f i v) hk.2.2.2]
    · show Value.long (sl (ul S f i v) (100 * ci + k) i) = _
      rw [hk.2.2.1]
      simp [sl, ul, up2]
    · intro j t' hj
      have hne : ¬ (100 * ci + j = f) := by omega
      unfold fv
      simp [si, sr, sl, ul, up2, hne]
  rw [e] at hP hD
  exact kk _ H1 locs1 rfl ⟨hP, hD, WT_ul hW.2.2⟩ hS1
theorem e_ur {f ci k : Nat} {v : Option Nat} {w : Value} (hi : i < n ∧ K i = ci) (hk : ob ci ∧ 100 * ci + k = f ∧ (tg ci)[k]? = some 1) (hw : va_re ad v = w) : (wd g ad n K S).set i (ad i, .inr (ci, (fvs g ad S ci i).set k w)) = wd g ad n K (ur S f i v) := by
  refine wd_set ?_ (fun j hj => cE_ur hj)
  rw [cE_obj hi.2 hk.1, fvs_set (S' := ur S f i v) hk.2.2]
  · show va_re ad (sr (ur S f i v) (100 * ci + k) i) = _
    rw [hk.2.1, ← hw]
    simp [sr, ur, up2]
  · intro j t' hj
    have hne : ¬ (100 * ci + j = f) := by omega
    unfold fv
    simp [si, sr, sl, ur, up2, hne]
theorem x_putr (f : Nat) {C Cr : String} {T : u_T} {N ci index : Nat} {ty0 : Nat → FieldType} {j av kj : Nat} (k : Nat) (hC : Cx g p s m args c cc own Ts nL) (hin : ∀ w ∈ u_ws C T N, w ∈ Ts) (hty : ∀ k, k < N → parseFieldDescriptor (T k).2.2.1 = some (ty0 k)) (hnm : ∀ a, a < N → ∀ b, b < N → a ≠ b → (T a).2.1 ≠ (T b).2.1) (hW : Wb g ad n K S A H) (hS : va_S A s.heap H locs) (hi : i < n ∧ K i = ci) (ha : a = ad i) (hj : j < n ∧ K j = kj) (haj : av = ad j) (hrk : rk f = kj) (hc : vwCl[ci]? = some (C, T, N)) (hk : k < N ∧ ob ci ∧ 100 * ci + k = f ∧ (tg ci)[k]? = some 1) (hT1 : (T k).1 = Cr) (hlink : (Cond.fieldLink own index Cr (T k).2.1 (T k).2.2.1).before args s = true) (hfin : (T k).2.2.2 = false) {ty : FieldType} (hd : parseFieldDescriptor (T k).2.2.1 = some ty) (hn : narrow ty (.ref av) = .ref av) (hfit : fits ty (.ref av) = true) (hdg : decode cc pc = .ok (.putfield index, 3))
    (kk : ∀ (S1 : St) (H1 : Heap) (locs1 : List Loc), S1 = ur S f i (some j) → Wb g ad n K S1 A H1 → va_S A s.heap H1 locs1 → W p l e R s m args below meth c H1 locs1 cells slots Q (F0 m (pc + 3) ls rest)) : W p l e R s m args below meth c H locs cells slots Q (F0 m pc ls (.ref av :: .ref a :: rest)) := by
  obtain ⟨hx, hb, -, hown, hts, hK⟩ := hC
  subst ha
  have hw := wd_get (g := g) (ad := ad) (K := K) (S := S) hi.1
  rw [cE_obj hi.2 hk.2.1] at hw
  have hl : k < (fvs g ad S ci i).length := by
    have := (List.getElem?_eq_some_iff.mp hk.2.2.2).1
    simpa [fvs] using this
  refine va_put (D := gD g) (ci := ci) (v := .ref av) (ty := ty) hx hb hts hin ty0 hty hnm hown hK hW.1 hW.2.1 hS i hw hc k hk.1 hlink (fun x h => by rw [hT1] at h; exact h) hfin hd hn hfit hl hdg (fun H1 locs1 hP hD hS1 => ?_)
  have e := e_ur (g := g) (ad := ad) (S := S) (f := f) (v := some j) (w := .ref av) hi ⟨hk.2.1, hk.2.2.1, hk.2.2.2⟩ (by rw [haj]; rfl)
  rw [e] at hP hD
  exact kk _ H1 locs1 rfl ⟨hP, hD, WT_ur hW.2.2 (fun _ j' h => by cases h; rw [hrk]; exact hj)⟩ hS1
theorem x_putrF (f : Nat) {C Cr : String} {T : u_T} {N ci index : Nat} {ty0 : Nat → FieldType} {j av kj : Nat} (k : Nat) (hC : Cx g p s m args c cc own Ts nL) (hin : ∀ w ∈ u_ws C T N, w ∈ Ts) (hty : ∀ k, k < N → parseFieldDescriptor (T k).2.2.1 = some (ty0 k)) (hnm : ∀ a, a < N → ∀ b, b < N → a ≠ b → (T a).2.1 ≠ (T b).2.1) (hW : Wb g ad n K S A H) (hS : va_S A s.heap H locs) (hi : i < n ∧ K i = ci) (ha : a = ad i) (hj : j < n ∧ K j = kj) (haj : av = ad j) (hrk : rk f = kj) (hc : vwCl[ci]? = some (C, T, N)) (hk : k < N ∧ ob ci ∧ 100 * ci + k = f ∧ (tg ci)[k]? = some 1) (hT1 : (T k).1 = Cr) (hlink : (Cond.fieldLink own index Cr (T k).2.1 (T k).2.2.1).before args s = true) (hfin : (T k).2.2.2 = true) (hin2 : meth.name = "<init>") (hdecl : (T k).1 = own) {ty : FieldType} (hd : parseFieldDescriptor (T k).2.2.1 = some ty) (hn : narrow ty (.ref av) = .ref av) (hfit : fits ty (.ref av) = true) (hdg : decode cc pc = .ok (.putfield index, 3))
    (kk : ∀ (S1 : St) (H1 : Heap) (locs1 : List Loc), S1 = ur S f i (some j) → Wb g ad n K S1 A H1 → va_S A s.heap H1 locs1 → W p l e R s m args below meth c H1 locs1 cells slots Q (F0 m (pc + 3) ls rest)) : W p l e R s m args below meth c H locs cells slots Q (F0 m pc ls (.ref av :: .ref a :: rest)) := by
  obtain ⟨hx, hb, -, hown, hts, hK⟩ := hC
  subst ha
  have hw := wd_get (g := g) (ad := ad) (K := K) (S := S) hi.1
  rw [cE_obj hi.2 hk.2.1] at hw
  have hl : k < (fvs g ad S ci i).length := by
    have := (List.getElem?_eq_some_iff.mp hk.2.2.2).1
    simpa [fvs] using this
  refine va_putF (D := gD g) (ci := ci) (v := .ref av) (ty := ty) hx hb hts hin ty0 hty hnm hown hK hW.1 hW.2.1 hS i hw hc k hk.1 hlink (fun x h => by rw [hT1] at h; exact h) hfin hin2 hdecl hd hn hfit hl hdg (fun H1 locs1 hP hD hS1 => ?_)
  have e := e_ur (g := g) (ad := ad) (S := S) (f := f) (v := some j) (w := .ref av) hi ⟨hk.2.1, hk.2.2.1, hk.2.2.2⟩ (by rw [haj]; rfl)
  rw [e] at hP hD
  exact kk _ H1 locs1 rfl ⟨hP, hD, WT_ur hW.2.2 (fun _ j' h => by cases h; rw [hrk]; exact hj)⟩ hS1
theorem x_putiF (f : Nat) {C Cr : String} {T : u_T} {N ci index : Nat} {ty0 : Nat → FieldType} {v : Int32} (k : Nat) (hC : Cx g p s m args c cc own Ts nL) (hin : ∀ w ∈ u_ws C T N, w ∈ Ts) (hty : ∀ k, k < N → parseFieldDescriptor (T k).2.2.1 = some (ty0 k)) (hnm : ∀ a, a < N → ∀ b, b < N → a ≠ b → (T a).2.1 ≠ (T b).2.1) (hW : Wb g ad n K S A H) (hS : va_S A s.heap H locs) (hi : i < n ∧ K i = ci) (ha : a = ad i) (hc : vwCl[ci]? = some (C, T, N)) (hk : k < N ∧ ob ci ∧ 100 * ci + k = f ∧ (tg ci)[k]? = some 0) (hT1 : (T k).1 = Cr) (hlink : (Cond.fieldLink own index Cr (T k).2.1 (T k).2.2.1).before args s = true) (hfin : (T k).2.2.2 = true) (hin2 : meth.name = "<init>") (hdecl : (T k).1 = own) {ty : FieldType} (hd : parseFieldDescriptor (T k).2.2.1 = some ty) (hn : narrow ty (.int v) = .int v) (hfit : fits ty (.int v) = true) (hdg : decode cc pc = .ok (.putfield index, 3))
    (kk : ∀ (S1 : St) (H1 : Heap) (locs1 : List Loc), S1 = ui S f i v → Wb g ad n K S1 A H1 → va_S A s.heap H1 locs1 → W p l e R s m args below meth c H1 locs1 cells slots Q (F0 m (pc + 3) ls rest)) : W p l e R s m args below meth c H locs cells slots Q (F0 m pc ls (.int v :: .ref a :: rest)) := by
  obtain ⟨hx, hb, -, hown, hts, hK⟩ := hC
  subst ha
  have hw := wd_get (g := g) (ad := ad) (K := K) (S := S) hi.1
  rw [cE_obj hi.2 hk.2.1] at hw
  have hl : k < (fvs g ad S ci i).length := by
    have := (List.getElem?_eq_some_iff.mp hk.2.2.2).1
    simpa [fvs] using this
  refine va_putF (D := gD g) (ci := ci) (v := .int v) (ty := ty) hx hb hts hin ty0 hty hnm hown hK hW.1 hW.2.1 hS i hw hc k hk.1 hlink (fun x h => by rw [hT1] at h; exact h) hfin hin2 hdecl hd hn hfit hl hdg (fun H1 locs1 hP hD hS1 => ?_)
  have e : (wd g ad n K S).set i (ad i, .inr (ci, (fvs g ad S ci i).set k (.int v))) = wd g ad n K (ui S f i v) := by
    refine wd_set ?_ (fun j hj => cE_ui hj)
    rw [cE_obj hi.2 hk.2.1, fvs_set (S' := ui S f i v) hk.2.2.2]
    · show Value.int (si (ui S f i v) (100 * ci + k) i) = _
      rw [hk.2.2.1]
      simp [si, ui, up2]
    · intro j t' hj
      have hne : ¬ (100 * ci + j = f) := by omega
      unfold fv
      simp [si, sr, sl, ui, up2, hne]
  rw [e] at hP hD
  exact kk _ H1 locs1 rfl ⟨hP, hD, WT_ui hW.2.2⟩ hS1
end XR
section XRN
variable {p : Program} {l : Launch} {e : Env} {R : Room} {s : State} {m : MethodId} {args : Array Value} {below : List Frame} {meth : Method} {c : Code} {H : Heap} {locs : List Loc} {cells slots : Nat} {Q : State → Prop}
variable {cc : ByteArray} {pc : Nat} {ls : Array Slot} {rest : List Value} {g : GP} {ad : Nat → Nat} {n : Nat} {K : Nat → Nat} {S : St} {A : Nat → Prop} {a i : Nat} {own : String} {Ts : List Cond} {nL : Nat}
theorem x_getiN (f : Nat) {C Cr host : String} {T : u_T} {N ci index : Nat} (k : Nat) (hC : Cx g p s m args c cc own Ts nL) (hin : ∀ w ∈ u_ws C T N, w ∈ Ts) (hW : Wb g ad n K S A H) (hi : i < n ∧ K i = ci) (ha : a = ad i) (hc : vwCl[ci]? = some (C, T, N)) (hk : k < N ∧ ob ci ∧ 100 * ci + k = f ∧ (tg ci)[k]? = some 0) (hT1 : (T k).1 = Cr) (hlink : (Cond.fieldLinkNest own index Cr (T k).2.1 (T k).2.2.1 host).before args s = true) (hdg : decode cc pc = .ok (.getfield index, 3))
    (kk : W p l e R s m args below meth c H locs cells slots Q (F0 m (pc + 3) ls (.int (si S f i) :: rest))) : W p l e R s m args below meth c H locs cells slots Q (F0 m pc ls (.ref a :: rest)) := by
  obtain ⟨hx, hb, -, hown, hts, hK⟩ := hC
  subst ha
  have hw := wd_get (g := g) (ad := ad) (K := K) (S := S) hi.1
  rw [cE_obj hi.2 hk.2.1] at hw
  refine va_getN (D := gD g) (ci := ci) (v := .int (si S f i)) hx hb hts hin hown hK hW.1 i hw hc k hk.1 hlink (fun x h => by rw [hT1] at h; exact h) ?_ hdg kk
  rw [fvs_get hk.2.2.2]
  show some (Value.int (si S (100 * ci + k) i)) = _
  rw [hk.2.2.1]
theorem x_getlN (f : Nat) {C Cr host : String} {T : u_T} {N ci index : Nat} (k : Nat) (hC : Cx g p s m args c cc own Ts nL) (hin : ∀ w ∈ u_ws C T N, w ∈ Ts) (hW : Wb g ad n K S A H) (hi : i < n ∧ K i = ci) (ha : a = ad i) (hc : vwCl[ci]? = some (C, T, N)) (hk : k < N ∧ ob ci ∧ 100 * ci + k = f ∧ (tg ci)[k]? = some 2) (hT1 : (T k).1 = Cr) (hlink : (Cond.fieldLinkNest own index Cr (T k).2.1 (T k).2.2.1 host).before args s = true) (hdg : decode cc pc = .ok (.getfield index, 3))
    (kk : W p l e R s m args below meth c H locs cells slots Q (F0 m (pc + 3) ls (.long (sl S f i) :: rest))) : W p l e R s m args below meth c H locs cells slots Q (F0 m pc ls (.ref a :: rest)) := by
  obtain ⟨hx, hb, -, hown, hts, hK⟩ := hC
  subst ha
  have hw := wd_get (g := g) (ad := ad) (K := K) (S := S) hi.1
  rw [cE_obj hi.2 hk.2.1] at hw
  refine va_getN (D := gD g) (ci := ci) (v := .long (sl S f i)) hx hb hts hin hown hK hW.1 i hw hc k hk.1 hlink (fun x h => by rw [hT1] at h; exact h) ?_ hdg kk
  rw [fvs_get hk.2.2.2]
  show some (Value.long (sl S (100 * ci + k) i)) = _
  rw [hk.2.2.1]
theorem x_getrN (f : Nat) {C Cr host : String} {T : u_T} {N ci index j : Nat} (k : Nat) (hC : Cx g p s m args c cc own Ts nL) (hin : ∀ w ∈ u_ws C T N, w ∈ Ts) (hW : Wb g ad n K S A H) (hi : i < n ∧ K i = ci) (ha : a = ad i) (hc : vwCl[ci]? = some (C, T, N)) (hk : k < N ∧ ob ci ∧ 100 * ci + k = f ∧ (tg ci)[k]? = some 1) (hT1 : (T k).1 = Cr) (hlink : (Cond.fieldLinkNest own index Cr (T k).2.1 (T k).2.2.1 host).before args s = true) (hdg : decode cc pc = .ok (.getfield index, 3)) (hj : sr S f i = some j)
    (kk : W p l e R s m args below meth c H locs cells slots Q (F0 m (pc + 3) ls (.ref (ad j) :: rest))) : W p l e R s m args below meth c H locs cells slots Q (F0 m pc ls (.ref a :: rest)) := by
  obtain ⟨hx, hb, -, hown, hts, hK⟩ := hC
  subst ha
  have hw := wd_get (g := g) (ad := ad) (K := K) (S := S) hi.1
  rw [cE_obj hi.2 hk.2.1] at hw
  refine va_getN (D := gD g) (ci := ci) (v := .ref (ad j)) hx hb hts hin hown hK hW.1 i hw hc k hk.1 hlink (fun x h => by rw [hT1] at h; exact h) ?_ hdg kk
  rw [fvs_get hk.2.2.2]
  show some (va_re ad (sr S (100 * ci + k) i)) = _
  rw [hk.2.2.1, hj]
  rfl
theorem x_putiN (f : Nat) {C Cr host : String} {T : u_T} {N ci index : Nat} {ty0 : Nat → FieldType} {v : Int32} (k : Nat) (hC : Cx g p s m args c cc own Ts nL) (hin : ∀ w ∈ u_ws C T N, w ∈ Ts) (hty : ∀ k, k < N → parseFieldDescriptor (T k).2.2.1 = some (ty0 k)) (hnm : ∀ a, a < N → ∀ b, b < N → a ≠ b → (T a).2.1 ≠ (T b).2.1) (hW : Wb g ad n K S A H) (hS : va_S A s.heap H locs) (hi : i < n ∧ K i = ci) (ha : a = ad i) (hc : vwCl[ci]? = some (C, T, N)) (hk : k < N ∧ ob ci ∧ 100 * ci + k = f ∧ (tg ci)[k]? = some 0) (hT1 : (T k).1 = Cr) (hlink : (Cond.fieldLinkNest own index Cr (T k).2.1 (T k).2.2.1 host).before args s = true) (hfin : (T k).2.2.2 = false) {ty : FieldType} (hd : parseFieldDescriptor (T k).2.2.1 = some ty) (hn : narrow ty (.int v) = .int v) (hfit : fits ty (.int v) = true) (hdg : decode cc pc = .ok (.putfield index, 3))
    (kk : ∀ (S1 : St) (H1 : Heap) (locs1 : List Loc), S1 = ui S f i v → Wb g ad n K S1 A H1 → va_S A s.heap H1 locs1 → W p l e R s m args below meth c H1 locs1 cells slots Q (F0 m (pc + 3) ls rest)) : W p l e R s m args below meth c H locs cells slots Q (F0 m pc ls (.int v :: .ref a :: rest)) := by
  obtain ⟨hx, hb, -, hown, hts, hK⟩ := hC
  subst ha
  have hw := wd_get (g := g) (ad := ad) (K := K) (S := S) hi.1
  rw [cE_obj hi.2 hk.2.1] at hw
  have hl : k < (fvs g ad S ci i).length := by
    have := (List.getElem?_eq_some_iff.mp hk.2.2.2).1
    simpa [fvs] using this
  refine va_putN (D := gD g) (ci := ci) (v := .int v) (ty := ty) hx hb hts hin ty0 hty hnm hown hK hW.1 hW.2.1 hS i hw hc k hk.1 hlink (fun x h => by rw [hT1] at h; exact h) hfin hd hn hfit hl hdg (fun H1 locs1 hP hD hS1 => ?_)
  have e : (wd g ad n K S).set i (ad i, .inr (ci, (fvs g ad S ci i).set k (.int v))) = wd g ad n K (ui S f i v) := by
    refine wd_set ?_ (fun j hj => cE_ui hj)
    rw [cE_obj hi.2 hk.2.1, fvs_set (S' := ui S f i v) hk.2.2.2]
    · show Value.int (si (ui S f i v) (100 * ci + k) i) = _
      rw [hk.2.2.1]
      simp [si, ui, up2]
    · intro j t' hj
      have hne : ¬ (100 * ci + j = f) := by omega
      unfold fv
      simp [si, sr, sl, ui, up2, hne]
  rw [e] at hP hD
  exact kk _ H1 locs1 rfl ⟨hP, hD, WT_ui hW.2.2⟩ hS1
theorem x_putlN (f : Nat) {C Cr host : String} {T : u_T} {N ci index : Nat} {ty0 : Nat → FieldType} {v : Int64} (k : Nat) (hC : Cx g p s m args c cc own Ts nL) (hin : ∀ w ∈ u_ws C T N, w ∈ Ts) (hty : ∀ k, k < N → parseFieldDescriptor (T k).2.2.1 = some (ty0 k)) (hnm : ∀ a, a < N → ∀ b, b < N → a ≠ b → (T a).2.1 ≠ (T b).2.1) (hW : Wb g ad n K S A H) (hS : va_S A s.heap H locs) (hi : i < n ∧ K i = ci) (ha : a = ad i) (hc : vwCl[ci]? = some (C, T, N)) (hk : k < N ∧ ob ci ∧ 100 * ci + k = f ∧ (tg ci)[k]? = some 2) (hT1 : (T k).1 = Cr) (hlink : (Cond.fieldLinkNest own index Cr (T k).2.1 (T k).2.2.1 host).before args s = true) (hfin : (T k).2.2.2 = false) (hd : parseFieldDescriptor (T k).2.2.1 = some .long) (hdg : decode cc pc = .ok (.putfield index, 3))
    (kk : ∀ (S1 : St) (H1 : Heap) (locs1 : List Loc), S1 = ul S f i v → Wb g ad n K S1 A H1 → va_S A s.heap H1 locs1 → W p l e R s m args below meth c H1 locs1 cells slots Q (F0 m (pc + 3) ls rest)) : W p l e R s m args below meth c H locs cells slots Q (F0 m pc ls (.long v :: .ref a :: rest)) := by
  obtain ⟨hx, hb, -, hown, hts, hK⟩ := hC
  subst ha
  have hw := wd_get (g := g) (ad := ad) (K := K) (S := S) hi.1
  rw [cE_obj hi.2 hk.2.1] at hw
  have hl : k < (fvs g ad S ci i).length := by
    have := (List.getElem?_eq_some_iff.mp hk.2.2.2).1
    simpa [fvs] using this
  refine va_putN (D := gD g) (ci := ci) (v := .long v) (ty := .long) hx hb hts hin ty0 hty hnm hown hK hW.1 hW.2.1 hS i hw hc k hk.1 hlink (fun x h => by rw [hT1] at h; exact h) hfin hd rfl rfl hl hdg (fun H1 locs1 hP hD hS1 => ?_)
  have e : (wd g ad n K S).set i (ad i, .inr (ci, (fvs g ad S ci i).set k (.long v))) = wd g ad n K (ul S f i v) := by
    refine wd_set ?_ (fun j hj => cE_ul hj)
    rw [cE_obj hi.2 hk.2.1, fvs_set (S' := ul S f i v) hk.2.2.2]
    · show Value.long (sl (ul S f i v) (100 * ci + k) i) = _
      rw [hk.2.2.1]
      simp [sl, ul, up2]
    · intro j t' hj
      have hne : ¬ (100 * ci + j = f) := by omega
      unfold fv
      simp [si, sr, sl, ul, up2, hne]
  rw [e] at hP hD
  exact kk _ H1 locs1 rfl ⟨hP, hD, WT_ul hW.2.2⟩ hS1
theorem x_putrN (f : Nat) {C Cr host : String} {T : u_T} {N ci index : Nat} {ty0 : Nat → FieldType} {j av kj : Nat} (k : Nat) (hC : Cx g p s m args c cc own Ts nL) (hin : ∀ w ∈ u_ws C T N, w ∈ Ts) (hty : ∀ k, k < N → parseFieldDescriptor (T k).2.2.1 = some (ty0 k)) (hnm : ∀ a, a < N → ∀ b, b < N → a ≠ b → (T a).2.1 ≠ (T b).2.1) (hW : Wb g ad n K S A H) (hS : va_S A s.heap H locs) (hi : i < n ∧ K i = ci) (ha : a = ad i) (hj : j < n ∧ K j = kj) (haj : av = ad j) (hrk : rk f = kj) (hc : vwCl[ci]? = some (C, T, N)) (hk : k < N ∧ ob ci ∧ 100 * ci + k = f ∧ (tg ci)[k]? = some 1) (hT1 : (T k).1 = Cr) (hlink : (Cond.fieldLinkNest own index Cr (T k).2.1 (T k).2.2.1 host).before args s = true) (hfin : (T k).2.2.2 = false) {ty : FieldType} (hd : parseFieldDescriptor (T k).2.2.1 = some ty) (hn : narrow ty (.ref av) = .ref av) (hfit : fits ty (.ref av) = true) (hdg : decode cc pc = .ok (.putfield index, 3))
    (kk : ∀ (S1 : St) (H1 : Heap) (locs1 : List Loc), S1 = ur S f i (some j) → Wb g ad n K S1 A H1 → va_S A s.heap H1 locs1 → W p l e R s m args below meth c H1 locs1 cells slots Q (F0 m (pc + 3) ls rest)) : W p l e R s m args below meth c H locs cells slots Q (F0 m pc ls (.ref av :: .ref a :: rest)) := by
  obtain ⟨hx, hb, -, hown, hts, hK⟩ := hC
  subst ha
  have hw := wd_get (g := g) (ad := ad) (K := K) (S := S) hi.1
  rw [cE_obj hi.2 hk.2.1] at hw
  have hl : k < (fvs g ad S ci i).length := by
    have := (List.getElem?_eq_some_iff.mp hk.2.2.2).1
    simpa [fvs] using this
  refine va_putN (D := gD g) (ci := ci) (v := .ref av) (ty := ty) hx hb hts hin ty0 hty hnm hown hK hW.1 hW.2.1 hS i hw hc k hk.1 hlink (fun x h => by rw [hT1] at h; exact h) hfin hd hn hfit hl hdg (fun H1 locs1 hP hD hS1 => ?_)
  have e := e_ur (g := g) (ad := ad) (S := S) (f := f) (v := some j) (w := .ref av) hi ⟨hk.2.1, hk.2.2.1, hk.2.2.2⟩ (by rw [haj]; rfl)
  rw [e] at hP hD
  exact kk _ H1 locs1 rfl ⟨hP, hD, WT_ur hW.2.2 (fun _ j' h => by cases h; rw [hrk]; exact hj)⟩ hS1
end XRN
section XA
variable {p : Program} {l : Launch} {e : Env} {R : Room} {s : State} {m : MethodId} {args : Array Value} {below : List Frame} {meth : Method} {c : Code} {H : Heap} {locs : List Loc} {cells slots : Nat} {Q : State → Prop}
variable {cc : ByteArray} {pc : Nat} {ls : Array Slot} {rest : List Value} {g : GP} {ad : Nat → Nat} {n : Nat} {K : Nat → Nat} {S : St} {A : Nat → Prop} {a i : Nat} {own : String} {Ts : List Cond} {nL : Nat}
variable {av k : Nat}
theorem x_iald {ci : Nat} {x : Int32} (hC : Cx g p s m args c cc own Ts nL) (hW : Wb g ad n K S A H) (hi : i < n ∧ K i = ci) (ha : a = ad i) (hc : ci = 12) (hin : vp_in x (ln S i)) (hdg : decode cc pc = .ok (.iaload, 1))
    (kk : W p l e R s m args below meth c H locs cells slots Q (F0 m (pc + 1) ls (.int (ai S i x.toNatClampNeg) :: rest))) : W p l e R s m args below meth c H locs cells slots Q (F0 m pc ls (.int x :: .ref a :: rest)) := by
  obtain ⟨hx, hb, -, hown, hts, hK⟩ := hC
  subst ha hc
  have hw := wd_get (g := g) (ad := ad) (K := K) (S := S) hi.1
  rw [cE_i hi.2 (Or.inr rfl)] at hw
  exact va_iald hx hb hK hW.1 i 1 hw rfl hin hdg kk
theorem x_bald {ci : Nat} {x : Int32} (hC : Cx g p s m args c cc own Ts nL) (hW : Wb g ad n K S A H) (hi : i < n ∧ K i = ci) (ha : a = ad i) (hc : ci = 11) (hin : vp_in x (ln S i)) (hdg : decode cc pc = .ok (.baload, 1))
    (kk : W p l e R s m args below meth c H locs cells slots Q (F0 m (pc + 1) ls (.int (ai S i x.toNatClampNeg) :: rest))) : W p l e R s m args below meth c H locs cells slots Q (F0 m pc ls (.int x :: .ref a :: rest)) := by
  obtain ⟨hx, hb, -, hown, hts, hK⟩ := hC
  subst ha hc
  have hw := wd_get (g := g) (ad := ad) (K := K) (S := S) hi.1
  rw [cE_i hi.2 (Or.inl rfl)] at hw
  exact va_bald hx hb hK hW.1 i 0 hw rfl hin hdg kk
theorem x_lald {ci : Nat} {x : Int32} (hC : Cx g p s m args c cc own Ts nL) (hW : Wb g ad n K S A H) (hi : i < n ∧ K i = ci) (ha : a = ad i) (hc : ci = 13) (hin : vp_in x (ln S i)) (hdg : decode cc pc = .ok (.laload, 1))
    (kk : W p l e R s m args below meth c H locs cells slots Q (F0 m (pc + 1) ls (.long (al S i x.toNatClampNeg) :: rest))) : W p l e R s m args below meth c H locs cells slots Q (F0 m pc ls (.int x :: .ref a :: rest)) := by
  obtain ⟨hx, hb, -, hown, hts, hK⟩ := hC
  subst ha hc
  have hw := wd_get (g := g) (ad := ad) (K := K) (S := S) hi.1
  rw [cE_l hi.2] at hw
  exact va_lald hx hb hK hW.1 i 2 hw rfl hin hdg kk
/-- an element of an array of references: null or not -/
theorem x_aald {ci : Nat} {x : Int32} (hC : Cx g p s m args c cc own Ts nL) (hW : Wb g ad n K S A H) (hi : i < n ∧ K i = ci) (ha : a = ad i) {t0 : Nat} {C : String} (hc : (ci = 14 ∨ ci = 15 ∨ ci = 16) ∧ (gT g)[t0]? = some (gcy g (ci - 11), .object C)) (hin : vp_in x (ln S i)) (hdg : decode cc pc = .ok (.aaload, 1))
    (k0 : ar S i x.toNatClampNeg = none → W p l e R s m args below meth c H locs cells slots Q (F0 m (pc + 1) ls (.null :: rest)))
    (k1 : ∀ j, ar S i x.toNatClampNeg = some j → j < n ∧ K j = ak ci → W p l e R s m args below meth c H locs cells slots Q (F0 m (pc + 1) ls (.ref (ad j) :: rest))) : W p l e R s m args below meth c H locs cells slots Q (F0 m pc ls (.int x :: .ref a :: rest)) := by
  obtain ⟨hx, hb, -, hown, hts, hK⟩ := hC
  subst ha
  have hw := wd_get (g := g) (ad := ad) (K := K) (S := S) hi.1
  rw [cE_r hi.2 hc.1] at hw
  refine va_aldq hx hb hK hW.1 i t0 hw hc.2 hin hdg ?_
  show W p l e R s m args below meth c H locs cells slots Q (F0 m (pc + 1) ls (va_rf ((ar S i x.toNatClampNeg).map ad) :: rest))
  cases hq : ar S i x.toNatClampNeg with
  | none => exact k0 hq
  | some j =>
    have h := hW.2.2.2 i _ j hq
    rw [hi.2] at h
    exact k1 j hq h
theorem x_iast {ci : Nat} {x v : Int32} (hC : Cx g p s m args c cc own Ts nL) (hW : Wb g ad n K S A H) (hS : va_S A s.heap H locs) (hi : i < n ∧ K i = ci) (ha : a = ad i) (hc : ci = 12) (hin : vp_in x (ln S i)) (hdg : decode cc pc = .ok (.iastore, 1))
    (kk : ∀ (S1 : St) (H1 : Heap) (locs1 : List Loc), S1 = uai S i x.toNatClampNeg v → Wb g ad n K S1 A H1 → va_S A s.heap H1 locs1 → W p l e R s m args below meth c H1 locs1 cells slots Q (F0 m (pc + 1) ls rest)) : W p l e R s m args below meth c H locs cells slots Q (F0 m pc ls (.int v :: .int x :: .ref a :: rest)) := by
  obtain ⟨hx, hb, -, hown, hts, hK⟩ := hC
  subst ha hc
  have hw := wd_get (g := g) (ad := ad) (K := K) (S := S) hi.1
  rw [cE_i hi.2 (Or.inr rfl)] at hw
  refine va_iast hx hb hK hW.1 hW.2.1 hS i 1 hw rfl hin hdg (fun H1 locs1 hP hD hS1 => ?_)
  have e : (wd g ad n K S).set i (ad i, .inl (gcy g (12 - 11), ln S i, .inl (upd (ai S i) x.toNatClampNeg v))) = wd g ad n K (uai S i x.toNatClampNeg v) := by
    refine wd_set ?_ (fun j hj => cE_sai hj)
    rw [cE_i hi.2 (Or.inr rfl)]
    simp [ai, ln, uai, sai, va_up]
  rw [e] at hP hD
  exact kk _ H1 locs1 rfl ⟨hP, hD, WT_sai hW.2.2⟩ hS1
theorem x_bast {ci : Nat} {x v : Int32} (hC : Cx g p s m args c cc own Ts nL) (hW : Wb g ad n K S A H) (hS : va_S A s.heap H locs) (hi : i < n ∧ K i = ci) (ha : a = ad i) (hc : ci = 11) (hin : vp_in x (ln S i)) (hdg : decode cc pc = .ok (.bastore, 1))
    (kk : ∀ (S1 : St) (H1 : Heap) (locs1 : List Loc), S1 = uai S i x.toNatClampNeg v.toInt8.toInt32 → Wb g ad n K S1 A H1 → va_S A s.heap H1 locs1 → W p l e R s m args below meth c H1 locs1 cells slots Q (F0 m (pc + 1) ls rest)) : W p l e R s m args below meth c H locs cells slots Q (F0 m pc ls (.int v :: .int x :: .ref a :: rest)) := by
  obtain ⟨hx, hb, -, hown, hts, hK⟩ := hC
  subst ha hc
  have hw := wd_get (g := g) (ad := ad) (K := K) (S := S) hi.1
  rw [cE_i hi.2 (Or.inl rfl)] at hw
  refine va_bast hx hb hK hW.1 hW.2.1 hS i 0 hw rfl hin hdg (fun H1 locs1 hP hD hS1 => ?_)
  have e : (wd g ad n K S).set i (ad i, .inl (gcy g (11 - 11), ln S i, .inl (upd (ai S i) x.toNatClampNeg (vp_nar .byte v)))) = wd g ad n K (uai S i x.toNatClampNeg v.toInt8.toInt32) := by
    refine wd_set ?_ (fun j hj => cE_sai hj)
    rw [cE_i hi.2 (Or.inl rfl), vp_nar_byte]
    simp [ai, ln, uai, sai, va_up]
  rw [e] at hP hD
  exact kk _ H1 locs1 rfl ⟨hP, hD, WT_sai hW.2.2⟩ hS1
theorem x_last {ci : Nat} {x : Int32} {v : Int64} (hC : Cx g p s m args c cc own Ts nL) (hW : Wb g ad n K S A H) (hS : va_S A s.heap H locs) (hi : i < n ∧ K i = ci) (ha : a = ad i) (hc : ci = 13) (hin : vp_in x (ln S i)) (hdg : decode cc pc = .ok (.lastore, 1))
    (kk : ∀ (S1 : St) (H1 : Heap) (locs1 : List Loc), S1 = ual S i x.toNatClampNeg v → Wb g ad n K S1 A H1 → va_S A s.heap H1 locs1 → W p l e R s m args below meth c H1 locs1 cells slots Q (F0 m (pc + 1) ls rest)) : W p l e R s m args below meth c H locs cells slots Q (F0 m pc ls (.long v :: .int x :: .ref a :: rest)) := by
  obtain ⟨hx, hb, -, hown, hts, hK⟩ := hC
  subst ha hc
  have hw := wd_get (g := g) (ad := ad) (K := K) (S := S) hi.1
  rw [cE_l hi.2] at hw
  refine va_last hx hb hK hW.1 hW.2.1 hS i 2 hw rfl hin hdg (fun H1 locs1 hP hD hS1 => ?_)
  have e : (wd g ad n K S).set i (ad i, .inl (gcy g 2, ln S i, .inr (.inl (vp_updL (al S i) x.toNatClampNeg v)))) = wd g ad n K (ual S i x.toNatClampNeg v) := by
    refine wd_set ?_ (fun j hj => cE_sal hj)
    rw [cE_l hi.2]
    simp [al, ln, ual, sal, va_up]
  rw [e] at hP hD
  exact kk _ H1 locs1 rfl ⟨hP, hD, WT_sal hW.2.2⟩ hS1
theorem x_alen {ci : Nat} (hC : Cx g p s m args c cc own Ts nL) (hW : Wb g ad n K S A H) (hi : i < n ∧ K i = ci) (ha : a = ad i) (hc : 11 ≤ ci ∧ ci ≤ 16) (hdg : decode cc pc = .ok (.arraylength, 1))
    (kk : W p l e R s m args below meth c H locs cells slots Q (F0 m (pc + 1) ls (.int (nI (ln S i)) :: rest))) : W p l e R s m args below meth c H locs cells slots Q (F0 m pc ls (.ref a :: rest)) := by
  obtain ⟨hx, hb, -, hown, hts, hK⟩ := hC
  subst ha
  have hw := wd_get (g := g) (ad := ad) (K := K) (S := S) hi.1
  rcases (show ci = 11 ∨ ci = 12 ∨ ci = 13 ∨ ci = 14 ∨ ci = 15 ∨ ci = 16 by omega) with rfl | rfl | rfl | rfl | rfl | rfl
  · rw [cE_i hi.2 (Or.inl rfl)] at hw
    exact va_alen hx hb hK hW.1 i 0 hw rfl rfl hdg kk
  · rw [cE_i hi.2 (Or.inr rfl)] at hw
    exact va_alen hx hb hK hW.1 i 1 hw rfl rfl hdg kk
  · rw [cE_l hi.2] at hw
    exact va_alen hx hb hK hW.1 i 2 hw rfl rfl hdg kk
  · rw [cE_r hi.2 (Or.inl rfl)] at hw
    exact va_alen hx hb hK hW.1 i 3 hw rfl rfl hdg kk
  · rw [cE_r hi.2 (Or.inr (Or.inl rfl))] at hw
    exact va_alen hx hb hK hW.1 i 4 hw rfl rfl hdg kk
  · rw [cE_r hi.2 (Or.inr (Or.inr rfl))] at hw
    exact va_alen hx hb hK hW.1 i 5 hw rfl rfl hdg kk
theorem x_aast {ci : Nat} {x : Int32} {v j cj : Nat} {C : String} {T : u_T} {N t0 : Nat} (hC : Cx g p s m args c cc own Ts nL) (hW : Wb g ad n K S A H) (hS : va_S A s.heap H locs) (hi : i < n ∧ K i = ci) (ha : a = ad i) (hj : j < n ∧ K j = cj) (hv : v = ad j) (hc : (ci = 14 ∨ ci = 15 ∨ ci = 16) ∧ (gT g)[t0]? = some (gcy g (ci - 11), .object C) ∧ vwCl[cj]? = some (C, T, N) ∧ ak ci = cj ∧ ob cj) (hin : vp_in x (ln S i)) (hdg : decode cc pc = .ok (.aastore, 1))
    (kk : ∀ (S1 : St) (H1 : Heap) (locs1 : List Loc), S1 = uar S i x.toNatClampNeg (some j) → Wb g ad n K S1 A H1 → va_S A s.heap H1 locs1 → W p l e R s m args below meth c H1 locs1 cells slots Q (F0 m (pc + 1) ls rest)) : W p l e R s m args below meth c H locs cells slots Q (F0 m pc ls (.ref v :: .int x :: .ref a :: rest)) := by
  obtain ⟨hx, hb, -, hown, hts, hK⟩ := hC
  subst ha hv
  have hw := wd_get (g := g) (ad := ad) (K := K) (S := S) hi.1
  rw [cE_r hi.2 hc.1] at hw
  have hwj := wd_get (g := g) (ad := ad) (K := K) (S := S) hj.1
  rw [cE_obj hj.2 hc.2.2.2.2] at hwj
  refine va_astq (r := (C, T, N)) hx hb hK hW.1 hW.2.1 hS i t0 j cj hw hc.2.1 hwj hc.2.2.1 hin hdg (fun H1 locs1 hP hD hS1 => ?_)
  have e : (wd g ad n K S).set i (ad i, .inl (gcy g (ci - 11), ln S i, .inr (.inr (.inr (.inr (va_up (fun j => (ar S i j).map ad) x.toNatClampNeg (some (ad j)))))))) = wd g ad n K (uar S i x.toNatClampNeg (some j)) := by
    refine wd_set ?_ (fun j hj => cE_sar hj)
    rw [cE_r hi.2 hc.1]
    have e2 : (fun k => (ar (uar S i x.toNatClampNeg (some j)) i k).map ad) = va_up (fun j => (ar S i j).map ad) x.toNatClampNeg (some (ad j)) := by
      funext k
      simp only [ar, uar, sar, va_up, if_true]
      by_cases hk : k = x.toNatClampNeg
      · simp [hk]
      · simp [hk]
    rw [e2]
    rfl
  rw [e] at hP hD
  exact kk _ H1 locs1 rfl ⟨hP, hD, WT_uar hW.2.2 (fun j' h => by cases h; rw [hi.2, hc.2.2.2.1]; exact hj)⟩ hS1
theorem x_aastN {ci : Nat} {x : Int32} {C : String} {t0 : Nat} (hC : Cx g p s m args c cc own Ts nL) (hW : Wb g ad n K S A H) (hS : va_S A s.heap H locs) (hi : i < n ∧ K i = ci) (ha : a = ad i) (hc : (ci = 14 ∨ ci = 15 ∨ ci = 16) ∧ (gT g)[t0]? = some (gcy g (ci - 11), .object C)) (hin : vp_in x (ln S i)) (hdg : decode cc pc = .ok (.aastore, 1))
    (kk : ∀ (S1 : St) (H1 : Heap) (locs1 : List Loc), S1 = uar S i x.toNatClampNeg none → Wb g ad n K S1 A H1 → va_S A s.heap H1 locs1 → W p l e R s m args below meth c H1 locs1 cells slots Q (F0 m (pc + 1) ls rest)) : W p l e R s m args below meth c H locs cells slots Q (F0 m pc ls (.null :: .int x :: .ref a :: rest)) := by
  obtain ⟨hx, hb, -, hown, hts, hK⟩ := hC
  subst ha
  have hw := wd_get (g := g) (ad := ad) (K := K) (S := S) hi.1
  rw [cE_r hi.2 hc.1] at hw
  refine va_astqN hx hb hK hW.1 hW.2.1 hS i t0 hw hc.2 hin hdg (fun H1 locs1 hP hD hS1 => ?_)
  have e : (wd g ad n K S).set i (ad i, .inl (gcy g (ci - 11), ln S i, .inr (.inr (.inr (.inr (va_up (fun j => (ar S i j).map ad) x.toNatClampNeg none)))))) = wd g ad n K (uar S i x.toNatClampNeg none) := by
    refine wd_set ?_ (fun j hj => cE_sar hj)
    rw [cE_r hi.2 hc.1]
    have e2 : (fun k => (ar (uar S i x.toNatClampNeg none) i k).map ad) = va_up (fun j => (ar S i j).map ad) x.toNatClampNeg none := by
      funext k
      simp only [ar, uar, sar, va_up, if_true]
      by_cases hk : k = x.toNatClampNeg
      · simp [hk]
      · simp [hk]
    rw [e2]
    rfl
  rw [e] at hP hD
  exact kk _ H1 locs1 rfl ⟨hP, hD, WT_uar hW.2.2 (fun j' h => by cases h)⟩ hS1
theorem x_copyi {index : Nat} {i2 : Nat} {a2 : Nat} {ci c2 : Nat} {nn : Int32} (hC : Cx g p s m args c cc own Ts nL) (hml : c.maxLocals = ls.size) (hlink : (Cond.methodLink own index arraycopyName).before args s = true) (hnat : (Cond.native arraycopyName).before args s = true) (hstat : (Cond.static arraycopyName).before args s = true) (hini : (Cond.initialized "java/lang/System").before args s = true)
    (hW : Wb g ad n K S A H) (hS : va_S A s.heap H locs) (hi : i < n ∧ K i = ci) (ha : a = ad i) (hi2 : i2 < n ∧ K i2 = c2) (ha2 : a2 = ad i2) (hc : ci = 12 ∧ c2 = 12) (hin : ¬ nn < 0 ∧ nn.toNatClampNeg ≤ ln S i ∧ nn.toNatClampNeg ≤ ln S i2) (hframes : 1 ≤ R.frames) (hlocals : (rest.map fun v => v.category).sum + (nativeFrameWords "java/lang/System" "arraycopy" 5 + 11) ≤ R.locals) (hdg : decode cc pc = .ok (.invokestatic index, 3))
    (kk : ∀ (S1 : St) (H1 : Heap) (locs1 : List Loc), S1 = sai S i2 (va_cpy (ai S i) (ai S i2) 0 0 nn.toNatClampNeg) → Wb g ad n K S1 A H1 → va_S A s.heap H1 locs1 → W p l e R s m args below meth c H1 locs1 cells slots Q (F0 m (pc + 3) ls rest)) : W p l e R s m args below meth c H locs cells slots Q (F0 m pc ls (.int nn :: .int 0 :: .ref a2 :: .int 0 :: .ref a :: rest)) := by
  obtain ⟨hx, hb, -, hown, hts, hK⟩ := hC
  obtain ⟨hc1, hc2⟩ := hc
  subst ha ha2 hc1 hc2
  have hw := wd_get (g := g) (ad := ad) (K := K) (S := S) hi.1
  rw [cE_i hi.2 (Or.inr rfl)] at hw
  have hw2 := wd_get (g := g) (ad := ad) (K := K) (S := S) hi2.1
  rw [cE_i hi2.2 (Or.inr rfl)] at hw2
  refine va_copyi (ty := .int) (sp := 0) (dp := 0) hx hb hml hown hlink hnat hstat hini hK hW.1 hW.2.1 hS i i2 1 1 hw hw2 rfl rfl rfl (by decide) (by decide) hin.1 (by show 0 + _ ≤ _; omega) (by show 0 + _ ≤ _; omega) (fun _ _ => rfl) hframes hlocals hdg (fun H1 locs1 hP hD hS1 => ?_)
  have e : (wd g ad n K S).set i2 (ad i2, .inl (gcy g (12 - 11), ln S i2, .inl (va_cpy (ai S i) (ai S i2) (0 : Int32).toNatClampNeg (0 : Int32).toNatClampNeg nn.toNatClampNeg))) = wd g ad n K (sai S i2 (va_cpy (ai S i) (ai S i2) 0 0 nn.toNatClampNeg)) := by
    refine wd_set ?_ (fun j hj => cE_sai hj)
    rw [cE_i hi2.2 (Or.inr rfl)]
    simp only [ai, ln, sai, va_up, if_true]
    rfl
  rw [e] at hP hD
  exact kk _ H1 locs1 rfl ⟨hP, hD, WT_sai hW.2.2⟩ hS1
/-- the world of a caller gives the start of its callee -/
theorem x_pre {U : State} (hC : Cx g p s m args c cc own Ts nL) (hW : Wb g ad n K S A H) (hS : va_S A s.heap H locs) (hG : GF g A s s.heap) (hA : ∀ q, s.heap.size ≤ q → A q) (hU : U.heap = H) (hWm : s.WarmedH U.vm) : PB g ad n K S H.size U := by
  have hdA : ∀ q, dA ad n H.size q → A q := by
    intro q h
    rcases h with ⟨i, hi, rfl⟩ | h
    · exact hW.2.1.2 i _ (wd_get hi)
    · exact hA q (Nat.le_trans hS.1 h)
  refine ⟨by rw [hU], by rw [hU]; exact hW.1, va_K.moved hWm.alike hC.2.2.2.2.2, hW.2.1.weaken (fun _ _ _ _ => trivial), hW.2.2, ?_⟩
  rw [hU]
  exact GF.warm hWm ((hG.kept hS.2.1).narrow hdA)
theorem x_free (hW : Wb g ad n K S A H) (hS : va_S A s.heap H locs) (hA : ∀ q, s.heap.size ≤ q → A q) : ∀ q, dA ad n H.size q → A q := by
  intro q h
  rcases h with ⟨i, hi, rfl⟩ | h
  · exact hW.2.1.2 i _ (wd_get hi)
  · exact hA q (Nat.le_trans hS.1 h)
/-- behind a call of a method that makes nothing -/
theorem x_back {mc ms : Nat} {o : Option Value} {S1 : St} {P : Prop} {st0 : List Value} {av : Array Value} (hr : va_Run p l e R s m args below meth c H locs cells slots mc ms (F0 m pc ls st0) rest (QR o (QB g ad n K S1 (dA ad n H.size) P) (dA ad n H.size) av) (dA ad n H.size)) (hW : Wb g ad n K S A H) (hS : va_S A s.heap H locs) (hA : ∀ q, s.heap.size ≤ q → A q)
    (kk : ∀ (H1 : Heap) (locs1 : List Loc), P → Wb g ad n K S1 A H1 → va_S A s.heap H1 locs1 → W p l e R s m args below meth c H1 locs1 (cells + mc) (slots + ms) Q (F0 m (pc + 3) ls (o.toList ++ rest))) : W p l e R s m args below meth c H locs cells slots Q (F0 m pc ls st0) := by
  have hf := x_free hW hS hA
  intro T hT X
  obtain ⟨v, st₀, t, T', L, h0, X', hL, e1, e2, ⟨⟨hv, hB, hP⟩, hz, hk⟩, st⟩ := hr T hT X
  cases hv
  rw [h0] at hz hk
  have hS1 : va_S A s.heap T'.heap (locs ++ L) := by
    refine ⟨?_, ?_, ?_⟩
    · rw [e1]; exact Nat.le_trans hS.1 hz
    · intro q hq hnq
      rw [e1, hk q (Nat.lt_of_lt_of_le hq hS.1) (fun h => hnq (hf q h))]
      exact hS.2.1 q hq hnq
    · intro z hzz
      rcases List.mem_append.mp hzz with h | h
      · exact hS.2.2 z h
      · exact hf _ (hL z h)
  have hB1 : Wb g ad n K S1 A T'.heap := by
    rw [e1]
    exact ⟨hB.1, hB.2.1.weaken (fun _ q _ h => hf q.1 h), hB.2.2⟩
  obtain ⟨t', a1, b1⟩ := kk T'.heap (locs ++ L) hP hB1 hS1 T' rfl X'
  exact ⟨t', st t' a1, b1⟩
theorem x_callV {C index y bytes maxL ret ws rm As na i0 ci T N o S1 st0} {P : Prop} (hC : Cx g p s m args c cc own Ts nL) (hls : ls.size = nL) (hW : Wb g ad n K S A H) (hS : va_S A s.heap H locs) (hG : GF g A s s.heap) (hA : ∀ q, s.heap.size ≤ q → A q) (hi : i0 < n ∧ K i0 = ci) (ha : a = ad i0) (hci : vwCl[ci]? = some (C, T, N) ∧ ob ci)
    (hM : Met l y ws rm (va_Pc (.ref a :: As) (PB g ad n K S H.size)) (QR o (QB g ad n K S1 (dA ad n H.size) P) (dA ad n H.size)) 0 0 (dA ad n H.size))
    (cw : CallW R s args own C index y bytes maxL ret ws rm 0 0 na) (hn : As.length = na) (hst : st0 = As.reverse ++ .ref a :: rest) (hR : (rest.map fun v => v.category).sum ≤ 8) (hdg : decode cc pc = .ok (.invokevirtual index, 3)) (hf : cells ≤ R.cells ∧ slots ≤ R.slots)
    (kk : ∀ (H1 : Heap) (locs1 : List Loc), P → Wb g ad n K S1 A H1 → va_S A s.heap H1 locs1 → W p l e R s m args below meth c H1 locs1 cells slots Q (F0 m (pc + 3) ls (o.toList ++ rest))) : W p l e R s m args below meth c H locs cells slots Q (F0 m pc ls st0) := by
  have hCC := hC
  obtain ⟨hx, hb, hml, hown, hts, hK⟩ := hC
  subst ha
  have hw := wd_get (g := g) (ad := ad) (K := K) (S := S) hi.1
  rw [cE_obj hi.2 hci.2] at hw
  exact x_back (va_runV (rest := rest) (As := As) ⟨hx, hb, hml, hown, hts⟩ hM cw ⟨x_blind, va_recv hK hW.1 hci.1 hw, fun U hU hWm => ⟨rfl, x_pre hCC hW hS hG hA hU hWm⟩⟩ rfl hn hls hst (lv_room hR) hdg hf) hW hS hA kk
theorem x_callVN {C index host y bytes maxL ret ws rm As na i0 ci T N o S1 st0} {P : Prop} (hC : Cx g p s m args c cc own Ts nL) (hls : ls.size = nL) (hW : Wb g ad n K S A H) (hS : va_S A s.heap H locs) (hG : GF g A s s.heap) (hA : ∀ q, s.heap.size ≤ q → A q) (hi : i0 < n ∧ K i0 = ci) (ha : a = ad i0) (hci : vwCl[ci]? = some (C, T, N) ∧ ob ci)
    (hM : Met l y ws rm (va_Pc (.ref a :: As) (PB g ad n K S H.size)) (QR o (QB g ad n K S1 (dA ad n H.size) P) (dA ad n H.size)) 0 0 (dA ad n H.size))
    (cw : va_CN R s args own index y host bytes maxL ret ws rm 0 0 na ∧ (Cond.instanceMethod y).before args s = true ∧ (Cond.selects C y y).before args s = true) (hn : As.length = na) (hst : st0 = As.reverse ++ .ref a :: rest) (hR : (rest.map fun v => v.category).sum ≤ 8) (hdg : decode cc pc = .ok (.invokevirtual index, 3)) (hf : cells ≤ R.cells ∧ slots ≤ R.slots)
    (kk : ∀ (H1 : Heap) (locs1 : List Loc), P → Wb g ad n K S1 A H1 → va_S A s.heap H1 locs1 → W p l e R s m args below meth c H1 locs1 cells slots Q (F0 m (pc + 3) ls (o.toList ++ rest))) : W p l e R s m args below meth c H locs cells slots Q (F0 m pc ls st0) := by
  have hCC := hC
  obtain ⟨hx, hb, hml, hown, hts, hK⟩ := hC
  subst ha
  have hw := wd_get (g := g) (ad := ad) (K := K) (S := S) hi.1
  rw [cE_obj hi.2 hci.2] at hw
  exact x_back (va_runVN (rest := rest) (As := As) ⟨hx, hb, hml, hown, hts⟩ hM cw ⟨x_blind, va_recv hK hW.1 hci.1 hw, fun U hU hWm => ⟨rfl, x_pre hCC hW hS hG hA hU hWm⟩⟩ rfl hn hls hst (lv_room hR) hdg hf) hW hS hA kk
theorem x_callS {index y bytes maxL ret ws rm As na o S1 st0} {P : Prop} (hC : Cx g p s m args c cc own Ts nL) (hls : ls.size = nL) (hW : Wb g ad n K S A H) (hS : va_S A s.heap H locs) (hG : GF g A s s.heap) (hA : ∀ q, s.heap.size ≤ q → A q)
    (hM : Met l y ws rm (va_Pc As (PB g ad n K S H.size)) (QR o (QB g ad n K S1 (dA ad n H.size) P) (dA ad n H.size)) 0 0 (dA ad n H.size))
    (cw : CallB R s args own index y bytes maxL ret ws rm 0 0 na ∧ (Cond.static y).before args s = true) (hn : As.length = na) (hst : st0 = As.reverse ++ rest) (hR : (rest.map fun v => v.category).sum ≤ 8) (hdg : decode cc pc = .ok (.invokestatic index, 3)) (hf : cells ≤ R.cells ∧ slots ≤ R.slots)
    (kk : ∀ (H1 : Heap) (locs1 : List Loc), P → Wb g ad n K S1 A H1 → va_S A s.heap H1 locs1 → W p l e R s m args below meth c H1 locs1 cells slots Q (F0 m (pc + 3) ls (o.toList ++ rest))) : W p l e R s m args below meth c H locs cells slots Q (F0 m pc ls st0) := by
  have hCC := hC
  obtain ⟨hx, hb, hml, hown, hts, hK⟩ := hC
  exact x_back (va_runS (rest := rest) (As := As) ⟨hx, hb, hml, hown, hts⟩ hM cw ⟨x_blind, fun U hU hWm => ⟨rfl, x_pre hCC hW hS hG hA hU hWm⟩⟩ rfl hn hls hst (lv_room hR) hdg hf) hW hS hA kk
theorem x_callSN {index host y bytes maxL ret ws rm As na o S1 st0} {P : Prop} (hC : Cx g p s m args c cc own Ts nL) (hls : ls.size = nL) (hW : Wb g ad n K S A H) (hS : va_S A s.heap H locs) (hG : GF g A s s.heap) (hA : ∀ q, s.heap.size ≤ q → A q)
    (hM : Met l y ws rm (va_Pc As (PB g ad n K S H.size)) (QR o (QB g ad n K S1 (dA ad n H.size) P) (dA ad n H.size)) 0 0 (dA ad n H.size))
    (cw : va_CN R s args own index y host bytes maxL ret ws rm 0 0 na ∧ (Cond.static y).before args s = true ∧ True) (hn : As.length = na) (hst : st0 = As.reverse ++ rest) (hR : (rest.map fun v => v.category).sum ≤ 8) (hdg : decode cc pc = .ok (.invokestatic index, 3)) (hf : cells ≤ R.cells ∧ slots ≤ R.slots)
    (kk : ∀ (H1 : Heap) (locs1 : List Loc), P → Wb g ad n K S1 A H1 → va_S A s.heap H1 locs1 → W p l e R s m args below meth c H1 locs1 cells slots Q (F0 m (pc + 3) ls (o.toList ++ rest))) : W p l e R s m args below meth c H locs cells slots Q (F0 m pc ls st0) := by
  have hCC := hC
  obtain ⟨hx, hb, hml, hown, hts, hK⟩ := hC
  exact x_back (va_runSN (rest := rest) (As := As) ⟨hx, hb, hml, hown, hts⟩ hM cw ⟨x_blind, fun U hU hWm => ⟨rfl, x_pre hCC hW hS hG hA hU hWm⟩⟩ rfl hn hls hst (lv_room hR) hdg hf) hW hS hA kk
theorem x_iret {v : Int32} {S1 : St} {P : Prop} (hC : Cx g p s m args c cc own Ts nL) (hr : meth.sig.returnType = some .int) (hW : Wb g ad n K S1 (dA ad n s.heap.size) H) (hS : va_S (dA ad n s.heap.size) s.heap H locs) (hP : P) (hlk : meth.locks = false) (hdg : decode cc pc = .ok (.ireturn, 1)) : W p l e R s m args below meth c H locs cells slots (MQ below (QR (some (.int v)) (QB g ad n K S1 (dA ad n s.heap.size) P) (dA ad n s.heap.size)) args s cells slots (dA ad n s.heap.size)) (F0 m pc ls [.int v]) :=
  W.iret (v := v) hC.1 hC.2.1 hr (fun t ht hWm => ⟨⟨rfl, by unfold QB; rw [ht]; exact ⟨hW, hP⟩⟩, hS.F ht⟩) hS.2.2 hdg hlk
theorem x_zret {v : Int32} {S1 : St} {P : Prop} {ty : FieldType} (hC : Cx g p s m args c cc own Ts nL) (hr : meth.sig.returnType = some ty) (hn : narrow ty (.int v) = .int v) (hW : Wb g ad n K S1 (dA ad n s.heap.size) H) (hS : va_S (dA ad n s.heap.size) s.heap H locs) (hP : P) (hlk : meth.locks = false) (hdg : decode cc pc = .ok (.ireturn, 1)) : W p l e R s m args below meth c H locs cells slots (MQ below (QR (some (.int v)) (QB g ad n K S1 (dA ad n s.heap.size) P) (dA ad n s.heap.size)) args s cells slots (dA ad n s.heap.size)) (F0 m pc ls [.int v]) :=
  W.zret (v := v) hC.1 hC.2.1 hr hn (fun t ht hWm => ⟨⟨rfl, by unfold QB; rw [ht]; exact ⟨hW, hP⟩⟩, hS.F ht⟩) hS.2.2 hdg hlk
theorem x_lret {v : Int64} {S1 : St} {P : Prop} (hC : Cx g p s m args c cc own Ts nL) (hr : meth.sig.returnType = some .long) (hW : Wb g ad n K S1 (dA ad n s.heap.size) H) (hS : va_S (dA ad n s.heap.size) s.heap H locs) (hP : P) (hlk : meth.locks = false) (hdg : decode cc pc = .ok (.lreturn, 1)) : W p l e R s m args below meth c H locs cells slots (MQ below (QR (some (.long v)) (QB g ad n K S1 (dA ad n s.heap.size) P) (dA ad n s.heap.size)) args s cells slots (dA ad n s.heap.size)) (F0 m pc ls [.long v]) :=
  W.lret (v := v) hC.1 hC.2.1 hr (fun t ht hWm => ⟨⟨rfl, by unfold QB; rw [ht]; exact ⟨hW, hP⟩⟩, hS.F ht⟩) hS.2.2 hdg hlk
theorem x_dret {v : UInt64} {S1 : St} {P : Prop} (hC : Cx g p s m args c cc own Ts nL) (hr : meth.sig.returnType = some .double) (hW : Wb g ad n K S1 (dA ad n s.heap.size) H) (hS : va_S (dA ad n s.heap.size) s.heap H locs) (hP : P) (hlk : meth.locks = false) (hdg : decode cc pc = .ok (.dreturn, 1)) : W p l e R s m args below meth c H locs cells slots (MQ below (QR (some (.double v)) (QB g ad n K S1 (dA ad n s.heap.size) P) (dA ad n s.heap.size)) args s cells slots (dA ad n s.heap.size)) (F0 m pc ls [.double v]) :=
  W.dret (v := v) hC.1 hC.2.1 hr (fun t ht hWm => ⟨⟨rfl, by unfold QB; rw [ht]; exact ⟨hW, hP⟩⟩, hS.F ht⟩) hS.2.2 hdg hlk
theorem x_vret {S1 : St} {P : Prop} (hC : Cx g p s m args c cc own Ts nL) (hr : meth.sig.returnType = none) (hW : Wb g ad n K S1 (dA ad n s.heap.size) H) (hS : va_S (dA ad n s.heap.size) s.heap H locs) (hP : P) (hlk : meth.locks = false) (hdg : decode cc pc = .ok (.return_, 1)) : W p l e R s m args below meth c H locs cells slots (MQ below (QR none (QB g ad n K S1 (dA ad n s.heap.size) P) (dA ad n s.heap.size)) args s cells slots (dA ad n s.heap.size)) (F0 m pc ls []) :=
  W.vret hC.1 hC.2.1 hr (fun t ht hWm => ⟨⟨rfl, by unfold QB; rw [ht]; exact ⟨hW, hP⟩⟩, hS.F ht⟩) hS.2.2 hdg hlk
theorem x_aret {v : Value} {rt : FieldType} {S1 : St} {P : Prop} (hC : Cx g p s m args c cc own Ts nL) (hr : meth.sig.returnType = some rt) (hrt : (∃ n, rt = .object n) ∨ ∃ t, rt = .array t) (hv : v = .null ∨ ∃ a, v = .ref a) (hW : Wb g ad n K S1 (dA ad n s.heap.size) H) (hS : va_S (dA ad n s.heap.size) s.heap H locs) (hP : P) (hlk : meth.locks = false) (hdg : decode cc pc = .ok (.areturn, 1)) : W p l e R s m args below meth c H locs cells slots (MQ below (QR (some v) (QB g ad n K S1 (dA ad n s.heap.size) P) (dA ad n s.heap.size)) args s cells slots (dA ad n s.heap.size)) (F0 m pc ls [v]) :=
  W.aret (v := v) hC.1 hC.2.1 hr hrt hv (fun t ht hWm => ⟨⟨rfl, by unfold QB; rw [ht]; exact ⟨hW, hP⟩⟩, hS.F ht⟩) hS.2.2 hdg hlk
end XA
