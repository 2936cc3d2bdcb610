/-! frames of the invariant's parts -/
def HDD (a k : Int) : Prop := (a = 137 ∧ k = 1) ∨ a = 138 ∨ a = 139 ∨ a = 140 ∨ (2000 ≤ a ∧ a < 2120)
def LAD (a k : Int) : Prop := (a = 137 ∧ (k = 0 ∨ k = 2)) ∨ a = 141 ∨ a = 143 ∨ a = 151 ∨ (1000 ≤ a ∧ a < 1200 ∧ a % 10 = 0 ∧ 1 ≤ k ∧ k ≤ 3)
def LBD (a k : Int) : Prop := (a = 137 ∧ (k = 0 ∨ k = 1 ∨ k = 2)) ∨ a = 142 ∨ a = 144 ∨ a = 145 ∨ a = 152 ∨ a = 156 ∨ (1000 ≤ a ∧ a < 1200 ∧ a % 10 = 0 ∧ 8 ≤ k)
def LMD (a k : Int) : Prop := (a = 137 ∧ k = 2) ∨ a = 146 ∨ a = 147 ∨ a = 148 ∨ (1000 ≤ a ∧ a < 1200 ∧ a % 10 = 1 ∧ k ≤ 2)
def LOD (a k : Int) : Prop := (a = 137 ∧ k = 2) ∨ a = 144 ∨ a = 142 ∨ a = 146 ∨ a = 147 ∨ a = 148
def LCD (a k : Int) : Prop := (a = 137 ∧ k = 2) ∨ a = 149 ∨ a = 150 ∨ a = 153 ∨ a = 154 ∨ a = 155 ∨ a = 157 ∨ (1000 ≤ a ∧ a < 1200 ∧ ((a % 10 = 3 ∧ k ≠ 3) ∨ a % 10 = 4))
def LKD (a k : Int) : Prop := (a = 137 ∧ (k = 0 ∨ k = 2)) ∨ a = 151 ∨ a = 158 ∨ (1000 ≤ a ∧ a < 1200 ∧ ((a % 10 = 1 ∧ k = 3) ∨ a % 10 = 5))
def LZD (a k : Int) : Prop := (a = 137 ∧ k = 2) ∨ (146 ≤ a ∧ a ≤ 150) ∨ (152 ≤ a ∧ a ≤ 157)
def TXD (s a k : Int) : Prop := (a = 106 ∧ k = 3) ∨ (a = 137 ∧ (k = 24 ∨ k = 45)) ∨ (a = 159 ∧ k < s) ∨ (a = 161 ∧ k < s) ∨ (a = 160 ∧ k < 100 * s) ∨ (108 ≤ a ∧ (a - 108) % 5000 ≤ 4 ∧ a < 108 + 5000 * s)
def RDD (a k : Int) : Prop := (a = 104 ∧ k = 1) ∨ (a = 137 ∧ k = 25) ∨ a = 105 ∨ (a = 160 ∧ 1100 ≤ k)
def BKD (a k : Int) : Prop := ((a = 113 ∨ a = 115 ∨ a = 117) ∧ k = 2) ∨ a = 114 ∨ a = 116 ∨ a = 118 ∨ (a = 137 ∧ 52 ≤ k ∧ k ≤ 54) ∨ (169 ≤ a ∧ a ≤ 176)
def ACD (a k : Int) : Prop := (a = 119 ∧ k = 0) ∨ (a = 137 ∧ k = 64) ∨ a = 120 ∨ a = 178
def TPD (a k : Int) : Prop := (125 ≤ a ∧ a ≤ 136 ∧ (a % 2 = 1 → k ≤ 1)) ∨ a = 179 ∨ a = 180 ∨ a = 181
def UND (a k : Int) : Prop := a = 137 ∧ (k = 1 ∨ k = 2 ∨ k = 24)
section FM
variable {V V' : Mem} {S : Shp} {n s t u : Int}
theorem HDT.fr (h : HDT V) (hk : V 137 1 ≤ 12) (f : FRM HDD V V') : HDT V' := by
  have F : ∀ a k, HDD a k → V' a k = V a k := f
  obtain ⟨h1, h2⟩ := h
  unfold HDT
  rw [F 137 1 (by unfold HDD; omega)]
  refine ⟨fun j j0 j1 => ⟨?_, fun k k0 k1 => ?_⟩, fun j k j0 j1 k0 k1 => ?_⟩
  · simp (disch := (unfold HDD; omega)) only [F]
    exact (h1 j j0 j1).1
  · simp (disch := (unfold HDD; omega)) only [F]
    exact (h1 j j0 j1).2 k k0 k1
  · simp (disch := (unfold HDD; omega)) only [F]
    exact h2 j k j0 j1 k0 k1
theorem LA1.fr (h : ALL V LA1) (hk : V 137 2 ≤ 20) (f : FRM LAD V V') : ALL V' LA1 := by
  have F : ∀ a k, LAD a k → V' a k = V a k := f
  intro i i0 i1
  rw [F _ _ (by unfold LAD; omega)] at i1
  unfold LA1
  simp (disch := (unfold LAD; omega)) only [F]
  exact h i i0 i1
theorem LB1.fr (h : ALL V LB1) (hk : V 137 2 ≤ 20) (f : FRM LBD V V') : ALL V' LB1 := by
  have F : ∀ a k, LBD a k → V' a k = V a k := f
  intro i i0 i1
  rw [F _ _ (by unfold LBD; omega)] at i1
  unfold LB1
  simp (disch := (unfold LBD; omega)) only [F]
  exact h i i0 i1
theorem LM1.fr (h : ALL V (LM1 n)) (hk : V 137 2 ≤ 20) (f : FRM LMD V V') : ALL V' (LM1 n) := by
  have F : ∀ a k, LMD a k → V' a k = V a k := f
  intro i i0 i1
  rw [F _ _ (by unfold LMD; omega)] at i1
  unfold LM1
  simp (disch := (unfold LMD; omega)) only [F]
  exact h i i0 i1
theorem LM1.up (h : ALL V (LM1 n)) (hn : n ≤ s) : ALL V (LM1 s) := by
  intro i i0 i1
  obtain ⟨r1, r2, r3, r4, r5, r6, r7, r8⟩ := h i i0 i1
  exact ⟨r1, r2, r3, r4, r5, by omega, r7, by omega⟩
theorem LO1.fr (h : ALL V LO1) (f : FRM LOD V V') : ALL V' LO1 := by
  have F : ∀ a k, LOD a k → V' a k = V a k := f
  intro i i0 i1
  rw [F _ _ (by unfold LOD; omega)] at i1
  unfold LO1
  simp (disch := (unfold LOD; omega)) only [F]
  exact h i i0 i1
theorem LC1.fr (h : ALL V LC1) (hk : V 137 2 ≤ 20) (f : FRM LCD V V') : ALL V' LC1 := by
  have F : ∀ a k, LCD a k → V' a k = V a k := f
  intro i i0 i1
  rw [F _ _ (by unfold LCD; omega)] at i1
  unfold LC1
  simp (disch := (unfold LCD; omega)) only [F]
  exact h i i0 i1
theorem LK1.fr (h : ALL V LK1) (hk : V 137 2 ≤ 20) (f : FRM LKD V V') : ALL V' LK1 := by
  have F : ∀ a k, LKD a k → V' a k = V a k := f
  intro i i0 i1
  rw [F _ _ (by unfold LKD; omega)] at i1
  unfold LK1 DK
  simp (disch := (unfold LKD; omega)) only [F]
  exact h i i0 i1
theorem LZZ.fr (h : LZZ V) (f : FRM LZD V V') : LZZ V' := by
  have F : ∀ a k, LZD a k → V' a k = V a k := f
  intro i i0 i1
  rw [F _ _ (by unfold LZD; omega)] at i0
  unfold LZ1
  simp (disch := (unfold LZD; omega)) only [F]
  exact h i i0 i1
theorem TXT1.fr (h : TXT1 V t u) (hu : 0 ≤ u) (hus : u < s) (ht : 0 ≤ t) (hts : t < s) (f : FRM (TXD s) V V') : TXT1 V' t u := by
  have F : ∀ a k, TXD s a k → V' a k = V a k := f
  obtain ⟨r0, r1, r2, r3, cs, r4, r5, r6, r7⟩ := h
  have e1 : V' 161 u = V 161 u := F _ _ (by unfold TXD; omega)
  have e2 : V' 159 u = V 159 u := F _ _ (by unfold TXD; omega)
  have ep : pkM V' (100 * u) (V 161 u) = pkM V (100 * u) (V 161 u) := by
    funext p
    unfold pkM
    by_cases hp : p < V 161 u
    · rw [if_pos hp, if_pos hp]; exact F _ _ (by unfold TXD; omega)
    · rw [if_neg hp, if_neg hp]
  have e0 : ∀ k, V' (TA t) k = V (TA t) k := fun k => F _ _ (by unfold TXD TA; omega)
  have g1 : ∀ k, V' (TA t + 1) k = V (TA t + 1) k := fun k => F _ _ (by unfold TXD TA; omega)
  have g2 : ∀ k, V' (TA t + 2) k = V (TA t + 2) k := fun k => F _ _ (by unfold TXD TA; omega)
  have g3 : ∀ k, V' (TA t + 3) k = V (TA t + 3) k := fun k => F _ _ (by unfold TXD TA; omega)
  have g4 : ∀ k, V' (TA t + 4) k = V (TA t + 4) k := fun k => F _ _ (by unfold TXD TA; omega)
  refine ⟨fun p p0 p1 => by rw [e1] at p1; rw [F 160 (100 * u + p) (by unfold TXD; omega)]; exact r0 p p0 p1, by rw [e0, e2]; exact r1, by rw [e2]; exact r2, by rw [e1]; exact r3, cs, by rw [e1, ep]; exact r4, by rw [e0]; exact r5, r6, fun i hi => ?_⟩
  unfold CLok
  simp only [g1, g2, g3, g4]
  exact r7 i hi
theorem TXT.fr (h : TXT V) (f : FRM (TXD (V 137 24)) V V') : TXT V' := by
  have F : ∀ a k, TXD (V 137 24) a k → V' a k = V a k := f
  obtain ⟨h1, h2, h3⟩ := h
  refine ⟨(F _ _ (by unfold TXD; omega)).trans h1, (F _ _ (by unfold TXD; omega)).trans h2, fun t t0 t1 => ?_⟩
  rw [F _ _ (by unfold TXD; omega)] at t1
  exact (h3 t t0 t1).fr t0 t1 t0 t1 f
theorem RDR.fr (h : RDR V) (f : FRM RDD V V') : RDR V' := by
  have F : ∀ a k, RDD a k → V' a k = V a k := f
  obtain ⟨h1, h2⟩ := h
  unfold RDR
  rw [F 104 1 (by unfold RDD; omega), F 137 25 (by unfold RDD; omega)]
  refine ⟨h1, fun k k0 k1 => ?_⟩
  simp (disch := (unfold RDD; omega)) only [F]
  exact h2 k k0 k1
theorem BKS.fr (h : BKS V) (f : FRM BKD V V') : BKS V' := by
  have F : ∀ a k, BKD a k → V' a k = V a k := f
  obtain ⟨⟨h1, h2⟩, ⟨h3, h4⟩, ⟨h5, h6⟩⟩ := h
  unfold BKS
  rw [F 113 2 (by unfold BKD; omega), F 137 52 (by unfold BKD; omega), F 115 2 (by unfold BKD; omega), F 137 53 (by unfold BKD; omega), F 117 2 (by unfold BKD; omega), F 137 54 (by unfold BKD; omega)]
  refine ⟨⟨h1, fun k k0 k1 => ?_⟩, ⟨h3, fun k k0 k1 => ?_⟩, ⟨h5, fun k k0 k1 => ?_⟩⟩
  · simp (disch := (unfold BKD; omega)) only [F]
    exact h2 k k0 k1
  · simp (disch := (unfold BKD; omega)) only [F]
    exact h4 k k0 k1
  · simp (disch := (unfold BKD; omega)) only [F]
    exact h6 k k0 k1
theorem ACT.fr (h : ACT V) (f : FRM ACD V V') : ACT V' := by
  have F : ∀ a k, ACD a k → V' a k = V a k := f
  unfold ACT
  simp (disch := (unfold ACD; omega)) only [F]
  exact h
theorem TAP.fr (h : TAP V) (f : FRM TPD V V') : TAP V' := by
  have F : ∀ a k, TPD a k → V' a k = V a k := f
  intro t t0 t1
  simp (disch := (unfold TPD; omega)) only [F]
  exact h t t0 t1
theorem UN.fr (h : UN V S) (f : FRM UND V V') : UN V' S := by
  have F : ∀ a k, UND a k → V' a k = V a k := f
  unfold UN
  simp (disch := (unfold UND; omega)) only [F]
  exact h
end FM
