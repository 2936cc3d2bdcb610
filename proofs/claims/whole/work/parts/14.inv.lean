/-! the invariant between component and model -/
def HDT (V : Mem) : Prop := (∀ j, 0 ≤ j → j < V 137 1 → (V (2000 + 10 * j) 1 = V 138 j ∧ V (2000 + 10 * j) 2 = V 139 j ∧ 0 ≤ V 138 j ∧ V 138 j ≤ 99 ∧ 0 ≤ V 139 j ∧ V 139 j ≤ 99) ∧ ∀ k, 0 ≤ k → k < 20 → V (2001 + 10 * j) k = V 140 (20 * j + k) ∧ 0 ≤ V 140 (20 * j + k) ∧ V 140 (20 * j + k) ≤ 999) ∧ ∀ j k, V 137 1 ≤ j → j < 12 → 0 ≤ k → k < 20 → V 140 (20 * j + k) = 0
def LA1 (V : Mem) (i : Int) : Prop := (V (1000 + 10 * i) 1 = V 141 i ∧ 0 ≤ V 141 i ∧ V 141 i ≤ 7) ∧ (V (1000 + 10 * i) 2 = V 143 i ∧ -9 ≤ V 143 i ∧ V 143 i ≤ 9) ∧ (V (1000 + 10 * i) 3 = V 151 i ∧ 0 ≤ V 151 i ∧ V 151 i ≤ V 137 0)
def LB1 (V : Mem) (i : Int) : Prop := (V (1000 + 10 * i) 8 = V 142 i ∧ 0 ≤ V 142 i ∧ V 142 i ≤ 9999) ∧ (V (1000 + 10 * i) 9 = V 144 i ∧ 0 ≤ V 144 i ∧ V 144 i ≤ 4) ∧ (V (1000 + 10 * i) 11 = V 156 i ∧ 0 ≤ V 156 i ∧ V 156 i ≤ 1) ∧ (V (1000 + 10 * i) 12 = V 152 i ∧ 0 ≤ V 152 i ∧ V 152 i ≤ V 137 0) ∧ ((V 145 i = -1 ∧ V (1000 + 10 * i) 10 = -1) ∨ (0 ≤ V 145 i ∧ V 145 i < V 137 1 ∧ V (1000 + 10 * i) 10 = 2000 + 10 * V 145 i))
def LM1 (n : Int) (V : Mem) (i : Int) : Prop := V (1001 + 10 * i) 0 = V 146 i ∧ V (1001 + 10 * i) 1 = V 147 i ∧ V (1001 + 10 * i) 2 = V 148 i ∧ 0 ≤ V 146 i ∧ 0 ≤ V 148 i ∧ V 146 i + V 148 i ≤ 1200 * n ∧ 0 ≤ V 147 i ∧ V 147 i ≤ 1200 * n
def LO1 (V : Mem) (i : Int) : Prop := V 144 i = 1 → ¬ (V 142 i - V 148 i - V 146 i ≤ 0 ∧ V 147 i = 0)
/-- bit c of a long -/
def bt (T c : Int) : Bool := (i64 T).toBitVec.getLsbD c.toNat
def LC1 (V : Mem) (i : Int) : Prop := V (1003 + 10 * i) 0 = V 155 i ∧ V (1003 + 10 * i) 1 = V 153 i ∧ V (1003 + 10 * i) 2 = V 154 i ∧ (V (1003 + 10 * i) 4 = V 150 i ∧ 0 ≤ V 150 i ∧ V 150 i ≤ 64) ∧ (0 ≤ V 149 i ∧ V 149 i ≤ 64 ∧ (∀ c, 0 ≤ c → c < V 149 i → bt (V 155 i) c = true) ∧ (V 149 i < 64 → bt (V 155 i) (V 149 i) = false)) ∧ ∀ c, 0 ≤ c → c < 64 → V (1004 + 10 * i) c = V 157 (64 * i + c) ∧ 0 ≤ V 157 (64 * i + c) ∧ V 157 (64 * i + c) ≤ 60
/-- how many DARK DAYS one behind the other were just ahead of today -/
def DK (V : Mem) (i D : Int) : Prop := 0 ≤ D ∧ D ≤ V 137 0 - V 151 i ∧ (∀ n, 0 ≤ n → n < D → V 158 (600 * i + V 137 0 - n - 1) = 5) ∧ (D < V 137 0 - V 151 i → V 158 (600 * i + V 137 0 - D - 1) ≠ 5)
def LK1 (V : Mem) (i : Int) : Prop := (∀ t, V 151 i ≤ t → t < V 137 0 → V (1005 + 10 * i) t = V 158 (600 * i + t) ∧ 0 ≤ V 158 (600 * i + t) ∧ V 158 (600 * i + t) ≤ 6) ∧ DK V i (V (1001 + 10 * i) 3)
def LZ1 (V : Mem) (i : Int) : Prop := V 146 i = 0 ∧ V 147 i = 0 ∧ V 148 i = 0 ∧ V 149 i = 0 ∧ V 150 i = 0 ∧ V 152 i = 0 ∧ V 153 i = 0 ∧ V 154 i = 0 ∧ V 155 i = 0 ∧ V 156 i = 0 ∧ ∀ c, 0 ≤ c → c < 64 → V 157 (64 * i + c) = 0
def ALL (V : Mem) (P : Mem → Int → Prop) : Prop := ∀ i, 0 ≤ i → i < V 137 2 → P V i
def LZZ (V : Mem) : Prop := ∀ i, V 137 2 ≤ i → i < 20 → LZ1 V i
def RDR (V : Mem) : Prop := (V 104 1 = V 137 25 ∧ 0 ≤ V 137 25 ∧ V 137 25 ≤ 100) ∧ ∀ k, 0 ≤ k → k < V 137 25 → V 105 k = V 160 (1100 + k) % 256 ∧ -128 ≤ V 160 (1100 + k) ∧ V 160 (1100 + k) < 128
def BKS (V : Mem) : Prop := ((V 113 2 = V 137 52 ∧ 0 ≤ V 137 52 ∧ V 137 52 ≤ 12) ∧ ∀ f, 0 ≤ f → f < V 137 52 → V 114 (4 * f + 1) = V 169 f ∧ 0 ≤ V 169 f ∧ V 169 f < 65536 ∧ V 169 f % 16 ≠ 0) ∧ ((V 115 2 = V 137 53 ∧ 0 ≤ V 137 53 ∧ V 137 53 ≤ 20) ∧ ∀ f, 0 ≤ f → f < V 137 53 → V 116 (4 * f) = V 170 f ∧ V 116 (4 * f + 1) = V 171 f ∧ V 116 (4 * f + 2) = V 172 f ∧ V 116 (4 * f + 3) = V 173 f) ∧ ((V 117 2 = V 137 54 ∧ 0 ≤ V 137 54 ∧ V 137 54 ≤ 60) ∧ ∀ f, 0 ≤ f → f < V 137 54 → V 118 (4 * f) = V 174 f ∧ V 118 (4 * f + 1) = V 175 f ∧ V 118 (4 * f + 2) = V 175 f + V 176 f)
def ACT (V : Mem) : Prop := V 119 0 = V 137 64 ∧ 0 ≤ V 137 64 ∧ V 137 64 ≤ 1000 ∧ ∀ k, 0 ≤ k → k < 20 → k < V 137 64 → V 120 k = V 178 k
def TAP (V : Mem) : Prop := ∀ t, 0 ≤ t → t < 6 → (V (125 + 2 * t) 0 = V 179 t ∧ -1 ≤ V 179 t ∧ V 179 t ≤ 4) ∧ (V (125 + 2 * t) 1 = V 180 t ∧ 0 ≤ V 180 t ∧ V 180 t ≤ 60 ∧ (V 179 t = -1 → V 180 t = 0)) ∧ ∀ k, 0 ≤ k → k < 60 → V (126 + 2 * t) k = V 181 (60 * t + k)
/-- what is not made yet -/
def UN (V : Mem) (S : Shp) : Prop := (∀ a, 1000 + 10 * V 137 2 ≤ a → a < 1200 → S.1 a = -1) ∧ (∀ a, 2000 + 10 * V 137 1 ≤ a → a < 2120 → S.1 a = -1) ∧ (∀ t a, V 137 24 < t → t ≤ 10 → TA t ≤ a → a < TA t + 5 → S.1 a = -1)
def INV (n : Int) (V : Mem) (S : Shp) : Prop := SK V S ∧ UN V S ∧ HDT V ∧ (ALL V LA1 ∧ ALL V LB1 ∧ ALL V (LM1 n) ∧ ALL V LO1 ∧ ALL V LC1 ∧ ALL V LK1 ∧ LZZ V) ∧ TXT V ∧ RDR V ∧ BKS V ∧ ACT V ∧ TAP V
