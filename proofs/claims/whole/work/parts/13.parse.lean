/-! the texts of TERMS, purely: what a text says -/
abbrev PR : Type := Bool × Int × List Int
abbrev CL : Type := Int × Int × Int × List Int
def isd (c : Int) : Bool := decide (48 ≤ c ∧ c ≤ 57)
def nmP (pk : Int → Int) (p : Int) : Bool × Int × Int :=
  bif isd (pk p) then (bif isd (pk (p + 1)) then (bif isd (pk (p + 2)) then (true, p + 3, 100 * (pk p - 48) + 10 * (pk (p + 1) - 48) + (pk (p + 2) - 48)) else (true, p + 2, 10 * (pk p - 48) + (pk (p + 1) - 48))) else (true, p + 1, pk p - 48)) else (false, p, 0)
def ltr (c : Int) : Int := if c = 111 then 0 else if c = 108 then 1 else if c = 107 then 2 else if c = 104 then 3 else if c = 109 then 4 else if c = 99 then 5 else -1
def sgn (c : Int) : Int := if c = 60 then 0 else if c = 61 then 1 else if c = 62 then 2 else -1
def pTest (pk : Int → Int) (p : Int) : PR :=
  if ltr (pk p) < 0 then (false, p, []) else
  if sgn (pk (p + 1)) < 0 then (false, p + 1, []) else
  let r := nmP pk (p + 2)
  bif r.1 then (true, r.2.1, [(ltr (pk p) * 3 + sgn (pk (p + 1))) * 1000 + r.2.2]) else (false, r.2.1, [])
def pLoop (pk : Int → Int) (sep step : Int) (f : Int → PR) : Nat → Int → List Int → PR
  | 0, p, L => (true, p, L)
  | n + 1, p, L => if pk p = sep then (bif (f (p + 1)).1 then pLoop pk sep step f n (f (p + 1)).2.1 (L ++ (f (p + 1)).2.2 ++ [step]) else (false, (f (p + 1)).2.1, [])) else (true, p, L)
def pT (pk : Int → Int) (f : Int → PR) (p : Int) : PR := bif (f p).1 then pLoop pk 38 (-2) f 100 (f p).2.1 (f p).2.2 else (false, (f p).2.1, [])
def pE (pk : Int → Int) (f : Int → PR) (p : Int) : PR := bif (pT pk f p).1 then pLoop pk 124 (-3) (pT pk f) 100 (pT pk f p).2.1 (pT pk f p).2.2 else (false, (pT pk f p).2.1, [])
def pF (pk : Int → Int) : Nat → Int → PR
  | 0, p => pTest pk p
  | k + 1, p =>
    if pk p = 33 then (bif (pF pk k (p + 1)).1 then (true, (pF pk k (p + 1)).2.1, (pF pk k (p + 1)).2.2 ++ [-1]) else (false, (pF pk k (p + 1)).2.1, []))
    else if pk p = 40 then (bif (pE pk (pF pk k) (p + 1)).1 then (if pk (pE pk (pF pk k) (p + 1)).2.1 = 41 then (true, (pE pk (pF pk k) (p + 1)).2.1 + 1, (pE pk (pF pk k) (p + 1)).2.2) else (false, (pE pk (pF pk k) (p + 1)).2.1, [])) else (false, (pE pk (pF pk k) (p + 1)).2.1, []))
    else pTest pk p
/-- a word and its blank -/
def pW (pk : Int → Int) : List Int → Int → Bool × Int
  | [], p => (true, p)
  | c :: r, p => if pk p = c then pW pk r (p + 1) else (false, p)
abbrev PC : Type := Bool × Int × CL
def noC (p : Int) : PC := (false, p, (0, 0, 0, []))
def pSum (pk : Int → Int) (p : Int) : PC :=
  bif (pW pk [115, 117, 109, 32] p).1 then (bif (nmP pk (pW pk [115, 117, 109, 32] p).2).1 then (if pk (nmP pk (pW pk [115, 117, 109, 32] p).2).2.1 = 32 then (bif (nmP pk ((nmP pk (pW pk [115, 117, 109, 32] p).2).2.1 + 1)).1 then (true, (nmP pk ((nmP pk (pW pk [115, 117, 109, 32] p).2).2.1 + 1)).2.1, (0, (nmP pk (pW pk [115, 117, 109, 32] p).2).2.2, (nmP pk ((nmP pk (pW pk [115, 117, 109, 32] p).2).2.1 + 1)).2.2, [])) else noC (nmP pk ((nmP pk (pW pk [115, 117, 109, 32] p).2).2.1 + 1)).2.1) else noC (nmP pk (pW pk [115, 117, 109, 32] p).2).2.1) else noC (nmP pk (pW pk [115, 117, 109, 32] p).2).2.1) else noC (pW pk [115, 117, 109, 32] p).2
def pGrace (pk : Int → Int) (p : Int) : PC :=
  bif (pW pk [103, 114, 97, 99, 101, 32] p).1 then (bif (nmP pk (pW pk [103, 114, 97, 99, 101, 32] p).2).1 then (true, (nmP pk (pW pk [103, 114, 97, 99, 101, 32] p).2).2.1, (1, (nmP pk (pW pk [103, 114, 97, 99, 101, 32] p).2).2.2, 0, [])) else noC (nmP pk (pW pk [103, 114, 97, 99, 101, 32] p).2).2.1) else noC (pW pk [103, 114, 97, 99, 101, 32] p).2
def pRun (pk : Int → Int) (p : Int) : PC :=
  bif (pW pk [114, 117, 110, 32] p).1 then (if pk (pW pk [114, 117, 110, 32] p).2 = 121 then (true, (pW pk [114, 117, 110, 32] p).2 + 1, (2, 1, 0, [])) else if pk (pW pk [114, 117, 110, 32] p).2 = 110 then (true, (pW pk [114, 117, 110, 32] p).2 + 1, (2, 0, 0, [])) else noC (pW pk [114, 117, 110, 32] p).2) else noC (pW pk [114, 117, 110, 32] p).2
def pTests (pk : Int → Int) (w : List Int) (word p : Int) : PC :=
  bif (pW pk w p).1 then (bif (pE pk (pF pk 4) (pW pk w p).2).1 then (true, (pE pk (pF pk 4) (pW pk w p).2).2.1, (word, 0, 0, (pE pk (pF pk 4) (pW pk w p).2).2.2)) else noC (pE pk (pF pk 4) (pW pk w p).2).2.1) else noC (pW pk w p).2
def pC (pk : Int → Int) (p : Int) : PC :=
  if pk p = 115 then pSum pk p else if pk p = 103 then pGrace pk p else if pk p = 114 then pRun pk p else if pk p = 102 then pTests pk [102, 101, 116, 99, 104, 32] 3 p else if pk p = 111 then pTests pk [111, 102, 102, 32] 4 p else noC p
/-- all CLAUSES: whether they are good, the place, the CLAUSES -/
def pX (pk : Int → Int) (n : Int) : Nat → Int → List CL → Bool × Int × List CL
  | 0, p, cs => (false, p, cs)
  | k + 1, p, cs =>
    bif (pC pk p).1 then
      (if (pC pk p).2.1 = n then (true, n, cs ++ [(pC pk p).2.2])
      else if k = 0 then (false, (pC pk p).2.1, cs)
      else if pk (pC pk p).2.1 = 59 then pX pk n k ((pC pk p).2.1 + 1) (cs ++ [(pC pk p).2.2])
      else (false, (pC pk p).2.1, cs))
    else (false, (pC pk p).2.1, cs)
/-- a text's bytes in the model -/
def pkM (V : Mem) (b n : Int) : Int → Int := fun p => if p < n then V 160 (b + p) else -1
def CLok (V : Mem) (t i : Int) (c : CL) : Prop := V (TA t + 1) i = c.1 ∧ ((0 ≤ c.1 ∧ c.1 ≤ 2 ∧ V (TA t + 2) i = c.2.1 ∧ V (TA t + 3) i = c.2.2.1) ∨ ((c.1 = 3 ∨ c.1 = 4) ∧ 0 ≤ V (TA t + 2) i ∧ V (TA t + 3) i = V (TA t + 2) i + (c.2.2.2.length : Int) ∧ V (TA t + 3) i ≤ 100 ∧ ∀ j : Nat, (hj : j < c.2.2.2.length) → V (TA t + 4) (V (TA t + 2) i + (j : Int)) = c.2.2.2[j]))
def TXC (V : Mem) (t : Int) (cs : List CL) : Prop := V (TA t) 1 = (cs.length : Int) ∧ cs.length ≤ 8 ∧ ∀ i : Nat, (hi : i < cs.length) → CLok V t (i : Int) cs[i]
/-- text t of the component is text u of the model, and good -/
def TXT1 (V : Mem) (t u : Int) : Prop := (∀ p, 0 ≤ p → p < V 161 u → -128 ≤ V 160 (100 * u + p) ∧ V 160 (100 * u + p) < 128) ∧ V (TA t) 0 = V 159 u ∧ (0 ≤ V 159 u ∧ V 159 u ≤ 599) ∧ (0 ≤ V 161 u ∧ V 161 u ≤ 100) ∧ ∃ cs, pX (pkM V (100 * u) (V 161 u)) (V 161 u) 8 0 [] = (true, V 161 u, cs) ∧ TXC V t cs
def TXT (V : Mem) : Prop := V 106 3 = 0 ∧ V 137 45 = 0 ∧ ∀ t, 0 ≤ t → t < V 137 24 → TXT1 V t t
