/-! THE RELATION: class and model hold the same spool. A spool is N (what the model's net holds) and B (the bytes of its parts). -/
/-- a count -/
def kN (N : Nat → Int32) (i : Nat) : Nat := (N i).toNatClampNeg
def isCnt (N : Nat → Int32) (i b : Nat) : Prop := N i = nI (kN N i) ∧ kN N i ≤ b
def stN (N : Nat → Int32) (m u : Nat) : Int32 := N (1171 + 3 * (10 * m + u))
def clN (N : Nat → Int32) (m u : Nat) : Int32 := N (1172 + 3 * (10 * m + u))
def enN (N : Nat → Int32) (m u : Nat) : Int32 := N (1173 + 3 * (10 * m + u))
def lenN (N : Nat → Int32) (p : Nat) : Int32 := N (4771 + 3 * p)
def isN (N : Nat → Int32) (p : Nat) : Int32 := N (4772 + 3 * p)
def deN (N : Nat → Int32) (p : Nat) : Int32 := N (4773 + 3 * p)
def manyN (N : Nat → Int32) (m : Nat) : Nat := kN N (333 + 7 * m)
def partN (N : Nat → Int32) (m i : Nat) : Nat := kN N (334 + 7 * m + i)
def hasN (N : Nat → Int32) (m p : Nat) : Prop := ∃ i, i < manyN N m ∧ partN N m i = p
def keptN (N : Nat → Int32) (m : Nat) : Prop := ∃ u, u < kN N 4 ∧ 0 ≤ stN N m u ∧ stN N m u ≤ 2
/-- how many numbers below b are so -/
noncomputable def cntP (P : Nat → Prop) (b : Nat) : Nat := @runN Nat (fun k a => a + @ite Nat (P k) (Classical.propDecidable _) 1 0) b 0 0
/-- a word of letters as a number to the base 27 -/
def wdN (N : Nat → Int32) (o c : Nat) : Int64 := runN (fun k (a : Int64) => a * 27 + ((N (o + k)).toInt64 - 96)) c 0 0
/-- how many letters a name has: they end at the first 0 -/
def isName (N : Nat → Int32) (o c : Nat) : Prop := 1 ≤ c ∧ (∀ k, k < c → 97 ≤ N (o + k) ∧ N (o + k) ≤ 122)
def letB (v : Int32) : Prop := 97 ≤ v ∧ v ≤ 122
/-- the letters of a hold's word, at a place of a part's bytes, with no letter beside them -/
def atB (N B : Nat → Int32) (p : Nat) (w : Nat → Int32) (c k : Nat) : Prop := k + c ≤ kN N (4771 + 3 * p) ∧ (∀ i, i < c → B (200 * p + k + i) = w i) ∧ (k = 0 ∨ ¬ letB (B (200 * p + k - 1))) ∧ (k + c = kN N (4771 + 3 * p) ∨ ¬ letB (B (200 * p + k + c)))
def contB (N B : Nat → Int32) (m : Nat) (w : Nat → Int32) (c : Nat) : Prop := ∃ i k, i < manyN N m ∧ atB N B (partN N m i) w c k
/-- a hold asks for a message -/
def asksN (N B : Nat → Int32) (m h : Nat) : Prop := N (206 + 21 * h) ≤ N (332 + 7 * m) ∧ N (332 + 7 * m) ≤ N (207 + 21 * h) ∧ (N (209 + 21 * h) = 0 ∨ contB N B m (fun k => N (210 + 21 * h + k)) (kN N (209 + 21 * h)))
/-- what holds of a spool by itself -/
def WF (N B : Nat → Int32) : Prop :=
  (isCnt N 0 30 ∧ isCnt N 1 30 ∧ 1 ≤ kN N 1 ∧ isCnt N 2 22000) ∧
  (isCnt N 3 8 ∧ isCnt N 4 10 ∧ isCnt N 5 6 ∧ isCnt N 6 6 ∧ isCnt N 7 120 ∧ isCnt N 8 480 ∧ isCnt N 9 60 ∧ kN N 8 ≤ 4 * kN N 7) ∧
  (∀ c, c < kN N 3 → (N (11 + 9 * c) = -1 ∨ (isCnt N (11 + 9 * c) 999 ∧ 1 ≤ kN N (11 + 9 * c))) ∧ isCnt N (12 + 9 * c) 99 ∧ (N (13 + 9 * c) = -1 ∨ (isCnt N (13 + 9 * c) 8 ∧ kN N (13 + 9 * c) < c))) ∧
  (∀ u, u < kN N 4 → isCnt N (83 + 8 * u) 8 ∧ kN N (83 + 8 * u) < kN N 3 ∧ isCnt N (84 + 8 * u) 99999 ∧ 1 ≤ kN N (84 + 8 * u)) ∧
  (∀ g, g < kN N 5 → isCnt N (163 + 7 * g) 1023 ∧ 1 ≤ kN N (163 + 7 * g)) ∧
  (∀ h, h < kN N 6 → isCnt N (205 + 21 * h) 10 ∧ kN N (205 + 21 * h) < kN N 4 ∧ isCnt N (206 + 21 * h) 9999 ∧ isCnt N (207 + 21 * h) 20000 ∧ (N (208 + 21 * h) = 0 ∨ N (208 + 21 * h) = 1) ∧ isCnt N (209 + 21 * h) 10 ∧ ∀ k, k < kN N (209 + 21 * h) → letB (N (210 + 21 * h + k))) ∧
  (∀ m, m < kN N 7 → isCnt N (331 + 7 * m) 10 ∧ isCnt N (332 + 7 * m) 20000 ∧ kN N (332 + 7 * m) ≤ kN N 2 ∧ isCnt N (333 + 7 * m) 4 ∧ 1 ≤ manyN N m ∧ ∀ i, i < manyN N m → isCnt N (334 + 7 * m + i) 480 ∧ partN N m i < kN N 8) ∧
  (∀ m u, m < kN N 7 → u < 10 → (stN N m u = -1 ∨ stN N m u = 0 ∨ stN N m u = 1 ∨ stN N m u = 2 ∨ stN N m u = 3) ∧ (kN N 4 ≤ u → stN N m u = -1) ∧ isCnt N (1173 + 3 * (10 * m + u)) 22000 ∧ kN N (1173 + 3 * (10 * m + u)) ≤ kN N 2 ∧ (u < kN N 4 → isCnt N (1172 + 3 * (10 * m + u)) 8 ∧ kN N (1172 + 3 * (10 * m + u)) < kN N 3)) ∧
  (∀ p, p < kN N 8 → isCnt N (4771 + 3 * p) 200 ∧ 1 ≤ kN N (4771 + 3 * p) ∧ (isN N p = 0 ∨ isN N p = 1) ∧ (deN N p = -1 ∨ (isCnt N (4773 + 3 * p) 22000 ∧ kN N (4773 + 3 * p) ≤ kN N 2)) ∧ (deN N p = -1 ↔ ∃ m, m < kN N 7 ∧ hasN N m p ∧ keptN N m) ∧ (deN N p = -1 → isN N p = 1) ∧ (∃ m, m < kN N 7 ∧ hasN N m p) ∧ ∀ k, k < kN N (4771 + 3 * p) → (B (200 * p + k)).toInt8.toInt32 = B (200 * p + k))
/-- an object of the class that came later than the fixed ones -/
def dyn (n j w : Nat) : Prop := 197 ≤ j ∧ j + w ≤ n
/-- the rules: object r -/
def CR (S : St) (r : Nat) (N : Nat → Int32) : Prop :=
  RuF S r ∧ (si S 600 r = N 0 ∧ si S 601 r = N 1 ∧ si S 401 (r + 1) = N 3 ∧ si S 401 (r + 6) = N 4 ∧ si S 401 (r + 10) = N 5 ∧ si S 401 (r + 13) = N 6) ∧
  (∀ c, c < kN N 3 → ai S (r + 3) c = N (11 + 9 * c) ∧ ai S (r + 4) c = N (12 + 9 * c) ∧ ai S (r + 5) c = N (13 + 9 * c) ∧ ∃ k, k ≤ 6 ∧ isName N (14 + 9 * c) k ∧ (∀ i, k ≤ i → i < 6 → N (14 + 9 * c + i) = 0) ∧ al S (r + 2) c = wdN N (14 + 9 * c) k) ∧
  (∀ u, u < kN N 4 → ai S (r + 8) u = N (83 + 8 * u) ∧ ∃ k, k ≤ 6 ∧ isName N (85 + 8 * u) k ∧ (∀ i, k ≤ i → i < 6 → N (85 + 8 * u + i) = 0) ∧ al S (r + 7) u = wdN N (85 + 8 * u) k) ∧
  (∀ g, g < kN N 5 → ai S (r + 12) g = N (163 + 7 * g) ∧ ∃ k, k ≤ 6 ∧ isName N (164 + 7 * g) k ∧ (∀ i, k ≤ i → i < 6 → N (164 + 7 * g + i) = 0) ∧ al S (r + 11) g = wdN N (164 + 7 * g) k) ∧
  (∀ h, h < kN N 6 → ai S (r + 15) h = N (205 + 21 * h) ∧ ai S (r + 16) h = N (206 + 21 * h) ∧ (ai S (r + 17) h = N (207 + 21 * h) ∨ (ai S (r + 17) h = 1000000000 ∧ N (207 + 21 * h) = 20000)) ∧ al S (r + 18) h = wdN N (210 + 21 * h) (kN N (209 + 21 * h)) ∧
    ∃ k, k ≤ 6 ∧ isName N (220 + 21 * h) k ∧ (∀ i, k ≤ i → i < 6 → N (220 + 21 * h + i) = 0) ∧ al S (r + 14) h = wdN N (220 + 21 * h) k)
/-- the messages: object j lies in the row p + 2 -/
def CM (S : St) (n p : Nat) (N B : Nat → Int32) : Prop := ∀ m, m < kN N 7 → ∃ j, ar S (p + 2) m = some j ∧ dyn n j 2 ∧ sr S 303 j = some (j + 1) ∧ ln S (j + 1) = manyN N m ∧ si S 300 j = N (331 + 7 * m) ∧ si S 301 j = N (332 + 7 * m) ∧
  si S 302 j = nI (runN (fun i a => a + kN N (4771 + 3 * partN N m i)) (manyN N m) 0 0) ∧ (∀ i, i < manyN N m → ai S (j + 1) i = N (334 + 7 * m + i)) ∧
  ∃ msk : Nat, si S 304 j = nI msk ∧ msk < 64 ∧ ∀ h, h < 6 → (msk.testBit h = true ↔ h < kN N 6 ∧ asksN N B m h)
/-- the references, in the rows p + 3, p + 4, p + 5 -/
def CF (S : St) (p : Nat) (N : Nat → Int32) : Prop := ∀ m u, m < kN N 7 → u < 10 → ai S (p + 3) (10 * m + u) = stN N m u ∧ ai S (p + 5) (10 * m + u) = enN N m u ∧ (u < kN N 4 → ai S (p + 4) (10 * m + u) = clN N m u)
/-- the parts: object j lies in the row p + 7 -/
def CP (S : St) (n p : Nat) (N B : Nat → Int32) : Prop :=
  (si S 800 (p + 6) = N 8 ∧ si S 801 (p + 6) = nI (cntP (fun q => isN N q = 1) (kN N 8)) ∧ si S 802 (p + 6) = nI (cntP (fun q => isN N q = 1 ∧ ¬ deN N q = -1) (kN N 8))) ∧
  ∀ q, q < kN N 8 → (∃ j, ar S (p + 7) q = some j ∧ dyn n j 2 ∧ sr S 0 j = some (j + 1) ∧ ln S (j + 1) = kN N (4771 + 3 * q) ∧ si S 1 j = lenN N q ∧ ∀ k, k < kN N (4771 + 3 * q) → ai S (j + 1) k = B (200 * q + k)) ∧
    (∃ m, m < kN N 7 ∧ hasN N m q ∧ (∀ m', m' < m → ¬ hasN N m' q) ∧ ai S (p + 8) q = nI m) ∧ ai S (p + 9) q = nI (cntP (fun m => hasN N m q ∧ keptN N m) (kN N 7)) ∧ (ai S (p + 10) q = if isN N q = 1 then deN N q else -2)
/-- the journal, a ring in the rows p + 14, p + 15, p + 16 -/
def CJ (S : St) (p : Nat) (N : Nat → Int32) : Prop := si S 204 (p + 13) = N 9 ∧ ∃ f, f < 60 ∧ si S 203 (p + 13) = nI f ∧ ∀ k, k < kN N 9 → ai S (p + 14) ((f + k) % 60) = N (6211 + 3 * k) ∧ ai S (p + 15) ((f + k) % 60) = N (6212 + 3 * k) ∧ ai S (p + 16) ((f + k) % 60) = N (6213 + 3 * k)
/-- the spool at p of the class holds what N and B say -/
def Cl (S : St) (n p : Nat) (N B : Nat → Int32) : Prop :=
  WF N B ∧ (∃ r, sr S 700 p = some r ∧ (r = 1 ∨ dyn n r 19) ∧ CR S r N) ∧ (si S 701 p = N 2 ∧ si S 702 p = N 10 ∧ si S 705 p = N 7) ∧
  (∃ act : Nat, si S 703 p = nI act ∧ act < 64 ∧ ∀ h, h < 6 → (act.testBit h = true ↔ h < kN N 6 ∧ N (208 + 21 * h) = 1)) ∧ (∀ u, u < kN N 4 → ai S (p + 1) u = N (84 + 8 * u)) ∧
  CM S n p N B ∧ CF S p N ∧ CP S n p N B ∧ CJ S p N ∧ (p = 48 ∨ kN N 2 ≤ 20000)
/-- what a call that only asks may write: the places of its work, and the spool that it thinks with -/
def wkA : List Nat := [25, 26, 196, 199, 202, 203, 204, 205, 206, 210, 211, 48, 49, 50, 51, 52, 53, 54, 55, 56, 57, 58, 59, 60, 61, 62, 63, 64, 65, 66, 67, 68]
