/-! the statements' words, checked one by one -/
/-- a name of two letters at s -/
def n2B (f : PD) (W s : Nat) (a : Int32) (j : Nat) : Bool := nmE f W s && (enE f W s - s == 2 && (f s == a && f (s + 1) == nI (97 + j)))
def nuB (f : PD) (W s v : Nat) : Bool := kdE f W s == 2 && nuE f W s == v
def eoB (f : PD) (W s : Nat) : Bool := syE f W s 59 && nxE f W s == W
def c3B (f : PD) (W s t : Nat) : Bool := if t = 0 then !txE f W s 7 && eoB f W s else txE f W s 7 && (n2B f W (nxE f W s) 99 (t - 1) && eoB f W (nxE f W (nxE f W s)))
def c2B (f : PD) (W s k t : Nat) : Bool := if k = 0 then !txE f W s 6 && c3B f W s t else txE f W s 6 && (nuB f W (nxE f W s) k && c3B f W (nxE f W (nxE f W s)) t)
def c1B (f : PD) (W s d k t : Nat) : Bool := if d = 0 then txE f W s 5 && c2B f W (nxE f W s) k t else !txE f W s 5 && (nuB f W s d && c2B f W (nxE f W s) k t)
def c0B (f : PD) (W c d k t : Nat) : Bool := txE f W 0 3 && (n2B f W (nxE f W 0) 99 c && (txE f W (nxE f W (nxE f W 0)) 4 && c1B f W (nxE f W (nxE f W (nxE f W 0))) d k t))
def clB (c d k t : Nat) : Bool := (clT c d k t).getLast? == some 59 && (chL (clT c d k t) 0 == 99 && c0B (chL (clT c d k t)) (clT c d k t).length c d k t)
def u0B (f : PD) (W u c q : Nat) : Bool := !txE f W 0 3 && (txE f W 0 8 && (n2B f W (nxE f W 0) 117 u && (txE f W (nxE f W (nxE f W 0)) 3 && (n2B f W (nxE f W (nxE f W (nxE f W 0))) 99 c && (txE f W (nxE f W (nxE f W (nxE f W (nxE f W 0)))) 9 && (nuB f W (nxE f W (nxE f W (nxE f W (nxE f W (nxE f W 0))))) q && eoB f W (nxE f W (nxE f W (nxE f W (nxE f W (nxE f W (nxE f W 0)))))))))))) 
def usB (u c q : Nat) : Bool := (usT u c q).getLast? == some 59 && (chL (usT u c q) 0 == 117 && u0B (chL (usT u c q)) (usT u c q).length u c q)
def h2B (f : PD) (W s : Nat) (b : Bool) : Bool := if b = true then txE f W s 14 && (woE f W (nxE f W s) && eoB f W (nxE f W (nxE f W s))) else !txE f W s 14 && eoB f W s
def h1B (f : PD) (W s : Nat) (a b : Bool) : Bool := if a = true then txE f W s 12 && (nuB f W (nxE f W s) 0 && (txE f W (nxE f W (nxE f W s)) 13 && (nuB f W (nxE f W (nxE f W (nxE f W s))) 3 && h2B f W (nxE f W (nxE f W (nxE f W (nxE f W s)))) b))) else !txE f W s 12 && h2B f W s b
def h0B (f : PD) (W h u : Nat) (a b : Bool) : Bool := !txE f W 0 3 && (!txE f W 0 8 && (!txE f W 0 10 && (txE f W 0 11 && (n2B f W (nxE f W 0) 104 h && (txE f W (nxE f W (nxE f W 0)) 8 && (n2B f W (nxE f W (nxE f W (nxE f W 0))) 117 u && h1B f W (nxE f W (nxE f W (nxE f W (nxE f W 0)))) a b))))))
def hoB (h u : Nat) (a b : Bool) : Bool := (hoT h u a b).getLast? == some 59 && (chL (hoT h u a b) 0 == 104 && h0B (chL (hoT h u a b)) (hoT h u a b).length h u a b)
def s0B (f : PD) (W a b : Nat) : Bool := nbE f W 0 == 0 && (txE f W 0 0 && (txE f W (nxE f W 0) 1 && (nuB f W (nxE f W (nxE f W 0)) a && (txE f W (nxE f W (nxE f W (nxE f W 0))) 2 && (nuB f W (nxE f W (nxE f W (nxE f W (nxE f W 0)))) b && eoB f W (nxE f W (nxE f W (nxE f W (nxE f W (nxE f W 0)))))))))) 
def spB (a b : Nat) : Bool := (spT a b).getLast? == some 59 && s0B (chL (spT a b)) (spT a b).length a b
theorem sp_all : ∀ a, a < 6 → ∀ b, b < 6 → (b = 0 ∨ spB a b = true) := by decide +kernel
theorem cl_all : ∀ c, c < 4 → ∀ d, d < 13 → ∀ k, k < 3 → ∀ t, t < 5 → clB c d k t = true := by decide +kernel
theorem ho_all : ∀ h, h < 2 → ∀ u, u < 3 → hoB h u false false = true ∧ hoB h u false true = true ∧ hoB h u true false = true ∧ hoB h u true true = true := by decide +kernel
