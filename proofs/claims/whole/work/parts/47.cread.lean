/-! the component's reading of a text: bytes, numbers, words, tests -/
def RS (pk : Int → Int) (n : Int) (V : Mem) : Prop := FV V ∧ (V 104 1 = n ∧ 0 ≤ n ∧ n ≤ 100) ∧ (∀ p, 0 ≤ p → p < n → V 105 p = pk p % 256) ∧ (∀ p, n ≤ p → pk p = -1) ∧ (∀ p, 0 ≤ p → -128 ≤ pk p ∧ pk p < 128)
def XFf (T a k : Int) : Prop := (a = 104 ∧ k = 2) ∨ (a = T ∧ k = 6) ∨ a = T + 4
def XFR (T : Int) (V V' : Mem) : Prop := ∀ a k, ¬ XFf T a k → V' a k = V a k
def AFR (V V' : Mem) : Prop := ∀ a k, ¬ (a = 104 ∧ k = 2) → V' a k = V a k
def TXk (T : Int) (S : Shp) : Prop := (S.1 T = 9 ∧ S.1 (T + 1) = 100 ∧ S.1 (T + 2) = 100 ∧ S.1 (T + 3) = 100 ∧ S.1 (T + 4) = 100 ∧ S.2.1 (T + 1) = 8 ∧ S.2.1 (T + 2) = 8 ∧ S.2.1 (T + 3) = 8 ∧ S.2.1 (T + 4) = 100)
def TXv (T : Int) (V : Mem) : Prop := V T 2 = T + 1 ∧ V T 3 = T + 2 ∧ V T 4 = T + 3 ∧ V T 5 = T + 4
def CSTT (pk : Int → Int) (n T : Int) (V : Mem) (p : Int) : Prop := RS pk n V ∧ TXv T V ∧ (V 104 2 = p ∧ 0 ≤ p ∧ p ≤ n) ∧ (0 ≤ V T 6 ∧ V T 6 ≤ p)
def APP (T : Int) (V V' : Mem) (L : List Int) : Prop := V' T 6 = V T 6 + (L.length : Int) ∧ (∀ j, j < V T 6 → V' (T + 4) j = V (T + 4) j) ∧ ∀ (j : Nat) (hj : j < L.length), V' (T + 4) (V T 6 + (j : Int)) = L[j]
section CR
variable {d : Nat} {n p q c x T o : Int} {pk : Int → Int} {V V' V2 : Mem} {S : Shp} {Q : Int → Mem → Shp → Prop} {U : Mem → Shp → Prop} {L L1 L2 : List Int}
theorem XFR.rf : XFR T V V := fun _ _ _ => rfl
theorem XFR.tr (h : XFR T V V') (g : XFR T V' V2) : XFR T V V2 := fun a k hn => (g a k hn).trans (h a k hn)
theorem XFR.up (h : XFR T V V') {a k v : Int} (he : XFf T a k) : XFR T V (up2 V' a k v) := fun q j hn => by
  rw [up2_ne]
  · exact h q j hn
  · by_cases e : q = a
    · exact Or.inr (fun e2 => hn (e ▸ e2 ▸ he))
    · exact Or.inl e
theorem AFR.xf (h : AFR V V') : XFR T V V' := fun a k hn => h a k (fun q => hn (Or.inl q))
theorem AFR.rf : AFR V V := fun _ _ _ => rfl
theorem AFR.tr (h : AFR V V') (g : AFR V' V2) : AFR V V2 := fun a k hn => (g a k hn).trans (h a k hn)
theorem AFR.up (h : AFR V V') {v : Int} : AFR V (up2 V' 104 2 v) := fun a k hn => by rw [up2_ne (by omega)]; exact h a k hn
theorem RS.xf (h : RS pk n V) (f : XFR T V V') (hT : 108 ≤ T) (hT2 : T % 5000 = 108) (hT3 : T ≤ 50108) : RS pk n V' := by
  obtain ⟨h1, ⟨h2, h2'⟩, h3, h4⟩ := h
  exact ⟨h1.fr (fun a k q => f a k (by unfold VD at q; unfold XFf; omega)), ⟨(f _ _ (by unfold XFf; omega)).trans h2, h2'⟩, fun p p0 p1 => (f _ _ (by unfold XFf; omega)).trans (h3 p p0 p1), h4⟩
theorem RS.af (h : RS pk n V) (f : AFR V V') : RS pk n V' := by
  obtain ⟨h1, ⟨h2, h2'⟩, h3, h4⟩ := h
  exact ⟨h1.fr (fun a k q => f a k (by unfold VD at q; omega)), ⟨(f _ _ (by omega)).trans h2, h2'⟩, fun p p0 p1 => (f _ _ (by omega)).trans (h3 p p0 p1), h4⟩
theorem RS.lt (h : RS pk n V) (hc : 0 ≤ pk p) : p < n := by
  by_cases e : p < n
  · exact e
  · have := h.2.2.2.1 p (by omega); omega
def yk (n : Int) (pk : Int → Int) (p : Int) : Int := if p < n then pk p % 256 else -1
theorem yk_e (h : RS pk n V) (p0 : 0 ≤ p) : s32 (yk n pk p) = yk n pk p ∧ (∀ c, 0 ≤ c → c < 128 → (yk n pk p = c ↔ pk p = c)) ∧ (48 ≤ yk n pk p ∧ yk n pk p ≤ 57 ↔ 48 ≤ pk p ∧ pk p ≤ 57) := by
  have h1 := h.2.2.2.2 p p0
  unfold yk
  by_cases c : p < n
  · rw [if_pos c]
    exact ⟨s32_id (by omega) (by omega), fun c c0 c1 => by omega, by omega⟩
  · rw [if_neg c]
    have := h.2.2.2.1 p (by omega)
    exact ⟨s32_id (by omega) (by omega), fun c c0 c1 => by omega, by omega⟩
theorem c_peek (hS : FS S) (h : RS pk n V) (hp : V 104 2 = p) (p0 : 0 ≤ p) (p1 : p ≤ n) : C_Reader_peek (d + 1) 104 V S Q ↔ Q (yk n pk p) V S := by
  obtain ⟨hV, ⟨h2, h2', h2''⟩, h3, h4⟩ := h
  rw [I_Reader_peek]
  unfold yk
  by_cases c1 : p < n
  · simp (disch := omega) only [hS.k104, hp, h2, s32_id, c1, hV.r104_0, hS.k105, hS.n105, h3 p p0 c1, show ¬ p < 0 from by omega, show p < 100 from by omega, p0, b_s32, b_eq0, b_01, l0, l1, true_and, and_true, and_self, true_implies, false_implies, implies_true, forall_const, not_true_eq_false, not_false_eq_true, reduceIte, ite_true, ite_false, reduceCtorEq, forall_eq, Classical.not_not, true_or, or_true, false_or, or_false, and_false, false_and, Int.reduceEq, Int.reduceLT, Int.reduceLE, Int.reduceAdd, Int.reduceSub, Int.reduceMul, Int.reduceNeg]
  · simp (disch := omega) only [hS.k104, hp, h2, s32_id, c1, b_s32, b_eq0, b_01, l0, l1, true_and, and_true, and_self, true_implies, false_implies, implies_true, forall_const, not_true_eq_false, not_false_eq_true, reduceIte, ite_true, ite_false, reduceCtorEq, forall_eq, Classical.not_not, true_or, or_true, false_or, or_false, and_false, false_and, Int.reduceEq, Int.reduceLT, Int.reduceLE, Int.reduceAdd, Int.reduceSub, Int.reduceMul, Int.reduceNeg]
theorem c_skip (hS : FS S) (h : RS pk n V) (hp : V 104 2 = p) (p0 : 0 ≤ p) (p1 : p ≤ n) (c0 : 0 ≤ c) (c1 : c < 128) : C_Reader_skip (d + 2) 104 c V S Q ↔ if pk p = c then Q 1 (up2 V 104 2 (p + 1)) S else Q 0 V S := by
  obtain ⟨y1, y2, -⟩ := yk_e h p0
  rw [I_Reader_skip, c_peek hS h hp p0 p1, y1, s32_id (x := c) (by omega) (by omega), y2 c c0 c1]
  by_cases e : pk p = c
  · simp only [e, hS.k104, hp, b_s32, b_eq0, b_01, l0, l1, true_and, and_true, and_self, true_implies, false_implies, implies_true, forall_const, not_true_eq_false, not_false_eq_true, reduceIte, ite_true, ite_false, reduceCtorEq, forall_eq, Classical.not_not, true_or, or_true, false_or, or_false, and_false, false_and, Int.reduceEq, Int.reduceLT, Int.reduceLE, Int.reduceAdd, Int.reduceSub, Int.reduceMul, Int.reduceNeg]
  · simp only [e, hS.k104, hp, b_s32, b_eq0, b_01, l0, l1, true_and, and_true, and_self, true_implies, false_implies, implies_true, forall_const, not_true_eq_false, not_false_eq_true, reduceIte, ite_true, ite_false, reduceCtorEq, forall_eq, Classical.not_not, true_or, or_true, false_or, or_false, and_false, false_and, Int.reduceEq, Int.reduceLT, Int.reduceLE, Int.reduceAdd, Int.reduceSub, Int.reduceMul, Int.reduceNeg]
theorem yk_d (h : RS pk n V) (hd : isd (pk p) = true) : yk n pk p = pk p := by
  have r := isd_i.mp hd
  have := h.lt (p := p) (by omega)
  unfold yk
  rw [if_pos this]
  omega
theorem c_dig (hS : FS S) (h : RS pk n V) (p0 : 0 ≤ p) : C_x_isWithin (d + 1) (yk n pk p - 48) 0 9 V S Q ↔ Q (if isd (pk p) = true then 1 else 0) V S := by
  obtain ⟨y1, -, y3⟩ := yk_e h p0
  have y4 := h.2.2.2.2 p p0
  have y5 : -1 ≤ yk n pk p ∧ yk n pk p ≤ 255 := by unfold yk; split <;> omega
  have y6 : (0 ≤ yk n pk p - 48 ∧ yk n pk p - 48 ≤ 9) ↔ (48 ≤ pk p ∧ pk p ≤ 57) := by omega
  rw [p_isWithin, s32_id (x := yk n pk p - 48) (by omega) (by omega), l0, s32_id (x := 9) (by omega) (by omega)]
  by_cases e : 48 ≤ pk p ∧ pk p ≤ 57
  · rw [if_pos (y6.mpr e), if_pos (isd_i.mpr e)]
  · rw [if_neg (fun q => e (y6.mp q)), if_neg (fun q => e (isd_i.mp q))]
theorem c_digY (hS : FS S) (h : RS pk n V) (p0 : 0 ≤ p) (c1 : isd (pk p) = true) : C_x_isWithin (d + 1) (pk p - 48) 0 9 V S Q ↔ Q 1 V S := by
  have e := c_dig (d := d) (Q := Q) hS h p0
  rw [yk_d h c1, if_pos c1] at e
  exact e
theorem c_n4a {g : Cnt} {a : Int} {u : XV} (hS : FS S) (h : RS pk n V) (hp : V 104 2 = p) (p0 : 0 ≤ p) (p1 : p ≤ n) : K_Reader_readNumber (d + 2) Q (4, [(2, 104), (0, a), (0, 0), u], [], V, S, g) ↔ if isd (pk p) = true then K_Reader_readNumber (d + 2) Q (4, [(2, 104), (0, pk p - 48), (0, 1), (0, pk p - 48)], [], up2 V 104 2 (p + 1), S, g) else Q a V S := by
  rw [L_Reader_readNumber_4]
  by_cases c1 : isd (pk p) = true
  · simp (disch := omega) only [s32_id (x := 0), s32_id (x := 3), s32_id (x := 1), c_peek hS h hp p0 p1, c_digY hS h p0 c1, c1, yk_d h c1, hS.k104, hp, b_s32, b_eq0, b_01, l0, l1, true_and, and_true, and_self, true_implies, false_implies, implies_true, forall_const, not_true_eq_false, not_false_eq_true, reduceIte, ite_true, ite_false, reduceCtorEq, forall_eq, Classical.not_not, true_or, or_true, false_or, or_false, and_false, false_and, Int.reduceEq, Int.reduceLT, Int.reduceLE, Int.reduceAdd, Int.reduceSub, Int.reduceMul, Int.reduceNeg]
  · simp (disch := omega) only [s32_id (x := 0), s32_id (x := 3), c_peek hS h hp p0 p1, c_dig hS h p0, c1, b_s32, b_eq0, b_01, l0, l1, true_and, and_true, and_self, true_implies, false_implies, implies_true, forall_const, not_true_eq_false, not_false_eq_true, reduceIte, ite_true, ite_false, reduceCtorEq, forall_eq, Classical.not_not, true_or, or_true, false_or, or_false, and_false, false_and, Int.reduceEq, Int.reduceLT, Int.reduceLE, Int.reduceAdd, Int.reduceSub, Int.reduceMul, Int.reduceNeg]
theorem c_n4 {g : Cnt} {j a : Int} {u : XV} (hS : FS S) (h : RS pk n V) (hp : V 104 2 = p) (p0 : 0 ≤ p) (p1 : p ≤ n) (j0 : 0 < j) (j1 : j < 3) : K_Reader_readNumber (d + 2) Q (4, [(2, 104), (0, a), (0, j), u], [], V, S, g) ↔ if isd (pk p) = true then K_Reader_readNumber (d + 2) Q (4, [(2, 104), (0, a * 10 + (pk p - 48)), (0, j + 1), (0, pk p - 48)], [], up2 V 104 2 (p + 1), S, g) else Q a V S := by
  rw [L_Reader_readNumber_4]
  by_cases c1 : isd (pk p) = true
  · simp (disch := omega) only [s32_id (x := j), s32_id (x := 3), s32_id (x := 1), j1, show ¬ j = 0 from by omega, c_peek hS h hp p0 p1, c_digY hS h p0 c1, c1, yk_d h c1, hS.k104, hp, b_s32, b_eq0, b_01, l0, l1, true_and, and_true, and_self, true_implies, false_implies, implies_true, forall_const, not_true_eq_false, not_false_eq_true, reduceIte, ite_true, ite_false, reduceCtorEq, forall_eq, Classical.not_not, true_or, or_true, false_or, or_false, and_false, false_and, Int.reduceEq, Int.reduceLT, Int.reduceLE, Int.reduceAdd, Int.reduceSub, Int.reduceMul, Int.reduceNeg]
  · simp (disch := omega) only [s32_id (x := j), s32_id (x := 3), s32_id (x := 0), j1, c_peek hS h hp p0 p1, c_dig hS h p0, c1, b_s32, b_eq0, b_01, l0, l1, true_and, and_true, and_self, true_implies, false_implies, implies_true, forall_const, not_true_eq_false, not_false_eq_true, reduceIte, ite_true, ite_false, reduceCtorEq, forall_eq, Classical.not_not, true_or, or_true, false_or, or_false, and_false, false_and, Int.reduceEq, Int.reduceLT, Int.reduceLE, Int.reduceAdd, Int.reduceSub, Int.reduceMul, Int.reduceNeg]
theorem c_n4e {g : Cnt} {a : Int} {u : XV} : K_Reader_readNumber d Q (4, [(2, 104), (0, a), (0, 3), u], [], V, S, g) ↔ Q a V S := by
  rw [L_Reader_readNumber_4]
  simp (disch := omega) only [s32_id, b_s32, b_eq0, b_01, l0, l1, true_and, and_true, and_self, true_implies, false_implies, implies_true, forall_const, not_true_eq_false, not_false_eq_true, reduceIte, ite_true, ite_false, reduceCtorEq, forall_eq, Classical.not_not, true_or, or_true, false_or, or_false, and_false, false_and, Int.reduceEq, Int.reduceLT, Int.reduceLE, Int.reduceAdd, Int.reduceSub, Int.reduceMul, Int.reduceNeg]
theorem c_number (hS : FS S) (h : RS pk n V) (hp : V 104 2 = p) (p0 : 0 ≤ p) (p1 : p ≤ n) (hQ : ∀ V', AFR V V' → V' 104 2 = (nmP pk p).2.1 → p ≤ (nmP pk p).2.1 → (nmP pk p).2.1 ≤ n → ((nmP pk p).1 = true → p < (nmP pk p).2.1 ∧ 0 ≤ (nmP pk p).2.2 ∧ (nmP pk p).2.2 ≤ 999) → Q (if (nmP pk p).1 = true then (nmP pk p).2.2 else -1) V' S) : C_Reader_readNumber (d + 3) 104 V S Q := by
  rw [I_Reader_readNumber]
  refine ⟨hS.k104, ?_⟩
  rw [c_n4a hS h hp p0 p1]
  by_cases c0 : isd (pk p) = true
  · have r0 := isd_i.mp c0
    have hn0 := h.lt (p := p) (by omega)
    have f1 : AFR V (up2 V 104 2 (p + 1)) := AFR.rf.up
    have g1 : (up2 V 104 2 (p + 1)) 104 2 = p + 1 := up2_eq rfl rfl
    rw [if_pos c0]
    generalize up2 V 104 2 (p + 1) = V1 at f1 g1 ⊢
    rw [c_n4 hS (h.af f1) g1 (by omega) (by omega) (by omega) (by omega)]
    by_cases c1 : isd (pk (p + 1)) = true
    · have r1 := isd_i.mp c1
      have hn1 := h.lt (p := p + 1) (by omega)
      rw [if_pos c1]
      have f2 : AFR V (up2 V1 104 2 (p + 1 + 1)) := f1.up
      have g2 : (up2 V1 104 2 (p + 1 + 1)) 104 2 = p + 2 := by rw [up2_eq rfl rfl]; omega
      generalize up2 V1 104 2 (p + 1 + 1) = V2 at f2 g2 ⊢
      rw [c_n4 hS (h.af f2) g2 (by omega) (by omega) (by omega) (by omega)]
      by_cases c2 : isd (pk (p + 2)) = true
      · have r2 := isd_i.mp c2
        have hn2 := h.lt (p := p + 2) (by omega)
        have hv : nmP pk p = (true, p + 3, 100 * (pk p - 48) + 10 * (pk (p + 1) - 48) + (pk (p + 2) - 48)) := by unfold nmP; rw [c0, c1, c2]; rfl
        rw [hv] at hQ
        rw [if_pos c2, show (1 : Int) + 1 + 1 = 3 from rfl, c_n4e]
        have := hQ _ (f2.up (v := p + 2 + 1)) (by rw [up2_eq rfl rfl]; show p + 2 + 1 = p + 3; omega) (by show p ≤ p + 3; omega) (by show p + 3 ≤ n; omega) (fun _ => ⟨by show p < p + 3; omega, by show 0 ≤ 100 * (pk p - 48) + 10 * (pk (p + 1) - 48) + (pk (p + 2) - 48); omega, by show 100 * (pk p - 48) + 10 * (pk (p + 1) - 48) + (pk (p + 2) - 48) ≤ 999; omega⟩)
        rw [if_pos rfl] at this
        rw [show ((pk p - 48) * 10 + (pk (p + 1) - 48)) * 10 + (pk (p + 2) - 48) = 100 * (pk p - 48) + 10 * (pk (p + 1) - 48) + (pk (p + 2) - 48) from by omega]
        exact this
      · have c2' := nf c2
        have hv : nmP pk p = (true, p + 2, 10 * (pk p - 48) + (pk (p + 1) - 48)) := by unfold nmP; rw [c0, c1, c2']; rfl
        rw [hv] at hQ
        rw [if_neg c2]
        have := hQ _ f2 g2 (by show p ≤ p + 2; omega) (by show p + 2 ≤ n; omega) (fun _ => ⟨by show p < p + 2; omega, by show 0 ≤ 10 * (pk p - 48) + (pk (p + 1) - 48); omega, by show 10 * (pk p - 48) + (pk (p + 1) - 48) ≤ 999; omega⟩)
        rw [if_pos rfl] at this
        rw [show (pk p - 48) * 10 + (pk (p + 1) - 48) = 10 * (pk p - 48) + (pk (p + 1) - 48) from by omega]
        exact this
    · have c1' := nf c1
      have hv : nmP pk p = (true, p + 1, pk p - 48) := by unfold nmP; rw [c0, c1']; rfl
      rw [hv] at hQ
      rw [if_neg c1]
      have := hQ _ f1 g1 (by show p ≤ p + 1; omega) (by show p + 1 ≤ n; omega) (fun _ => ⟨by show p < p + 1; omega, by show 0 ≤ pk p - 48; omega, by show pk p - 48 ≤ 999; omega⟩)
      rw [if_pos rfl] at this
      exact this
  · have c0' := nf c0
    have hv : nmP pk p = (false, p, 0) := by unfold nmP; rw [c0']; rfl
    rw [hv] at hQ
    rw [if_neg c0]
    exact hQ V AFR.rf hp (Int.le_refl _) p1 (fun q => by cases q)
theorem c_len (hk : S.1 o = 130) (hQ : Q (S.2.1 o) V S) : C_String_length (d + 1) o V S Q := ⟨_, V, S, Or.inl ⟨o, rfl, hk, rfl⟩, hQ⟩
theorem c_char {i : Int} (hk : S.1 o = 130) (h0 : 0 ≤ s32 i) (h1 : s32 i < S.2.1 o) (hQ : Q (V o (s32 i)) V S) : C_String_charAt (d + 1) o i V S Q := ⟨_, V, S, Or.inl ⟨o, i, rfl, hk, h0, h1, rfl⟩, hQ⟩
theorem c_word_l {N : Int} (hS : FS S) (hk : S.1 o = 130) (hn : S.2.1 o = N) (hN : N ≤ 100) (ho : o < 0) : ∀ (r : List Int) (k : Nat) (V : Mem) (p : Int) (g : Cnt), RS pk n V → V 104 2 = p → 0 ≤ p → p ≤ n → (∀ (j : Nat) (hj : j < r.length), V o ((k : Int) + (j : Int)) = r[j]) → (∀ c ∈ r, 0 ≤ c ∧ c < 128) → (k : Int) + (r.length : Int) = N → (∀ V', AFR V V' → V' 104 2 = (pW pk r p).2 → p ≤ (pW pk r p).2 → (pW pk r p).2 ≤ n → ((pW pk r p).1 = true → p + (r.length : Int) ≤ (pW pk r p).2) → Q (if (pW pk r p).1 = true then 1 else 0) V' S) → K_Reader_skipWord (d + 2) Q (2, [(2, 104), (2, o), (0, (k : Int))], [], V, S, g) := by
  intro r
  induction r with
  | nil =>
    intro k V p g h hp p0 p1 hv hc hl hQ
    have hl : (k : Int) = N := by rw [List.length_nil] at hl; omega
    rw [L_Reader_skipWord_2]
    refine c_len hk ?_
    rw [hn]
    simp (disch := omega) only [s32_id (x := (k : Int)), s32_id (x := N), s32_id (x := 1), show ¬ (k : Int) < N from by omega, b_s32, b_eq0, b_01, l0, l1, true_and, and_true, and_self, true_implies, false_implies, implies_true, forall_const, not_true_eq_false, not_false_eq_true, reduceIte, ite_true, ite_false, reduceCtorEq, forall_eq, Classical.not_not, true_or, or_true, false_or, or_false, and_false, false_and, Int.reduceEq, Int.reduceLT, Int.reduceLE, Int.reduceAdd, Int.reduceSub, Int.reduceMul, Int.reduceNeg]
    exact hQ V AFR.rf hp (Int.le_refl _) p1 (fun _ => by show p + ((0 : Nat) : Int) ≤ p; omega)
  | cons c r ih =>
    intro k V p g h hp p0 p1 hv hc hl hQ
    rw [List.length_cons] at hl
    have h0 := hv 0 (Nat.succ_pos _)
    have h0 : V o (k : Int) = c := by rw [show (k : Int) = (k : Int) + ((0 : Nat) : Int) from by omega]; exact h0
    have hcc := hc c List.mem_cons_self
    rw [L_Reader_skipWord_2]
    refine c_len hk ?_
    rw [hn]
    simp (disch := omega) only [s32_id (x := (k : Int)), s32_id (x := N), show (k : Int) < N from by omega, b_s32, b_eq0, b_01, l0, l1, true_and, and_true, and_self, true_implies, false_implies, implies_true, forall_const, not_true_eq_false, not_false_eq_true, reduceIte, ite_true, ite_false, reduceCtorEq, forall_eq, Classical.not_not, true_or, or_true, false_or, or_false, and_false, false_and, Int.reduceEq, Int.reduceLT, Int.reduceLE, Int.reduceAdd, Int.reduceSub, Int.reduceMul, Int.reduceNeg]
    refine c_char hk (by rw [s32_id (by omega) (by omega)]; omega) (by rw [s32_id (by omega) (by omega), hn]; omega) ?_
    rw [s32_id (x := (k : Int)) (by omega) (by omega), h0, c_skip hS h hp p0 p1 hcc.1 hcc.2]
    by_cases e : pk p = c
    · rw [if_pos e]
      have hw : pW pk (c :: r) p = pW pk r (p + 1) := by show (if pk p = c then _ else _) = _; rw [if_pos e]
      rw [hw] at hQ
      have ln := h.lt (p := p) (by omega)
      have f1 : AFR V (up2 V 104 2 (p + 1)) := AFR.rf.up
      try simp (disch := omega) only [s32_id (x := 1), b_s32, b_eq0, b_01, l0, l1, true_and, and_true, and_self, true_implies, false_implies, implies_true, forall_const, not_true_eq_false, not_false_eq_true, reduceIte, ite_true, ite_false, reduceCtorEq, forall_eq, Classical.not_not, true_or, or_true, false_or, or_false, and_false, false_and, Int.reduceEq, Int.reduceLT, Int.reduceLE, Int.reduceAdd, Int.reduceSub, Int.reduceMul, Int.reduceNeg]
      have := ih (k + 1) (up2 V 104 2 (p + 1)) (p + 1) g (h.af f1) (up2_eq rfl rfl) (by omega) (by omega) (fun j hj => ?_) (fun c hc' => hc c (List.mem_cons_of_mem _ hc')) (by omega) (fun V' a1 a2 a3 a4 a5 => hQ V' (f1.tr a1) a2 (by omega) a4 (fun q => by have := a5 q; rw [List.length_cons]; omega))
      · rw [show ((k + 1 : Nat) : Int) = (k : Int) + 1 from by omega] at this
        exact this
      · have := hv (j + 1) (Nat.succ_lt_succ hj)
        rw [f1 o _ (by omega), show ((k + 1 : Nat) : Int) + (j : Int) = (k : Int) + ((j + 1 : Nat) : Int) from by omega]
        exact this
    · rw [if_neg e]
      have hw : pW pk (c :: r) p = (false, p) := by show (if pk p = c then _ else _) = _; rw [if_neg e]
      rw [hw] at hQ
      try simp (disch := omega) only [s32_id (x := 0), b_s32, b_eq0, b_01, l0, l1, true_and, and_true, and_self, true_implies, false_implies, implies_true, forall_const, not_true_eq_false, not_false_eq_true, reduceIte, ite_true, ite_false, reduceCtorEq, forall_eq, Classical.not_not, true_or, or_true, false_or, or_false, and_false, false_and, Int.reduceEq, Int.reduceLT, Int.reduceLE, Int.reduceAdd, Int.reduceSub, Int.reduceMul, Int.reduceNeg]
      exact hQ V AFR.rf hp (Int.le_refl _) p1 (fun q => by cases q)
theorem c_word {l : List Int} (hS : FS S) (hk : S.1 o = 130) (hn : S.2.1 o = (l.length : Int)) (hN : l.length ≤ 100) (ho : o < 0) (h : RS pk n V) (hp : V 104 2 = p) (p0 : 0 ≤ p) (p1 : p ≤ n) (hv : ∀ (j : Nat) (hj : j < l.length), V o (j : Int) = l[j]) (hc : ∀ c ∈ l, 0 ≤ c ∧ c < 128) (hQ : ∀ V', AFR V V' → V' 104 2 = (pW pk l p).2 → p ≤ (pW pk l p).2 → (pW pk l p).2 ≤ n → ((pW pk l p).1 = true → p + (l.length : Int) ≤ (pW pk l p).2) → Q (if (pW pk l p).1 = true then 1 else 0) V' S) : C_Reader_skipWord (d + 3) 104 o V S Q := by
  rw [I_Reader_skipWord, hS.k104]
  exact ⟨rfl, c_word_l hS hk hn (by omega) ho l 0 V p _ h hp p0 p1 (fun j hj => by rw [show ((0 : Nat) : Int) + (j : Int) = (j : Int) from by omega]; exact hv j hj) hc (by omega) hQ⟩
theorem APP.nil : APP T V V [] := ⟨by show V T 6 = V T 6 + ((0 : Nat) : Int); omega, fun _ _ => rfl, fun j hj => absurd hj (Nat.not_lt_zero j)⟩
theorem APP.app (h : APP T V V' L1) (g : APP T V' V2 L2) : APP T V V2 (L1 ++ L2) := by
  obtain ⟨h1, h2, h3⟩ := h
  obtain ⟨g1, g2, g3⟩ := g
  refine ⟨by rw [List.length_append, g1, h1]; omega, fun j hj => (g2 j (by omega)).trans (h2 j hj), fun j hj => ?_⟩
  rw [List.length_append] at hj
  by_cases c : j < L1.length
  · rw [List.getElem_append_left c, g2 _ (by omega)]
    exact h3 j c
  · rw [List.getElem_append_right (by omega)]
    have := g3 (j - L1.length) (by omega)
    rw [h1, show V T 6 + (L1.length : Int) + ((j - L1.length : Nat) : Int) = V T 6 + (j : Int) from by omega] at this
    exact this
theorem APP.af (h : APP T V V' L) (f : AFR V' V2) (hT : 108 ≤ T) : APP T V V2 L := by
  obtain ⟨h1, h2, h3⟩ := h
  exact ⟨(f _ _ (by omega)).trans h1, fun j hj => (f _ _ (by omega)).trans (h2 j hj), fun j hj => (f _ _ (by omega)).trans (h3 j hj)⟩
def TXa (T : Int) : Prop := 108 ≤ T ∧ T % 5000 = 108 ∧ T ≤ 50108
theorem c_addStep (hT : TXa T) (hk : TXk T S) (hv : TXv T V) (h0 : 0 ≤ V T 6) (h1 : V T 6 < 100) (hU : ∀ V', XFR T V V' → APP T V V' [x] → V' 104 2 = V 104 2 → U V' S) : C_Text_addStep (d + 1) T x V S U := by
  obtain ⟨k1, k2, k3, k4, k5, k6, k7, k8, k9⟩ := hk
  obtain ⟨v1, v2, v3, v4⟩ := hv
  obtain ⟨t1, t2, t3⟩ := hT
  rw [I_Text_addStep]
  simp (disch := omega) only [k1, v4, k5, k9, s32_id, show ¬ V T 6 < 0 from by omega, h0, h1, up2_ne, b_s32, b_eq0, b_01, l0, l1, true_and, and_true, and_self, true_implies, false_implies, implies_true, forall_const, not_true_eq_false, not_false_eq_true, reduceIte, ite_true, ite_false, reduceCtorEq, forall_eq, Classical.not_not, true_or, or_true, false_or, or_false, and_false, false_and, Int.reduceEq, Int.reduceLT, Int.reduceLE, Int.reduceAdd, Int.reduceSub, Int.reduceMul, Int.reduceNeg]
  refine hU _ ((XFR.rf.up (by unfold XFf; omega)).up (by unfold XFf; omega)) ⟨?_, fun j hj => ?_, fun j hj => ?_⟩ (by rw [up2_ne (by omega), up2_ne (by omega)])
  · rw [up2_eq rfl rfl]; rfl
  · rw [up2_ne (by omega), up2_ne (by omega)]
  · have : j = 0 := by have : j < 1 := hj; omega
    subst this
    rw [up2_ne (by omega), up2_eq rfl (by omega)]
    rfl
theorem TXv.xf (h : TXv T V) (hT : TXa T) (f : XFR T V V') : TXv T V' := by
  obtain ⟨h1, h2, h3, h4⟩ := h
  obtain ⟨t1, t2, t3⟩ := hT
  exact ⟨(f _ _ (by unfold XFf; omega)).trans h1, (f _ _ (by unfold XFf; omega)).trans h2, (f _ _ (by unfold XFf; omega)).trans h3, (f _ _ (by unfold XFf; omega)).trans h4⟩
def CP (pk : Int → Int) (n T : Int) (r : PR) (p : Int) (V V' : Mem) : Prop := XFR T V V' ∧ V' 104 2 = r.2.1 ∧ (r.1 = true → APP T V V' r.2.2 ∧ CSTT pk n T V' r.2.1 ∧ (r.2.2.length : Int) ≤ r.2.1 - p ∧ p < r.2.1)
theorem c_letter (hS : FS S) (h : RS pk n V) (hp : V 104 2 = p) (p0 : 0 ≤ p) (p1 : p ≤ n) : C_Reader_letterAt (d + 2) 104 V S Q ↔ Q (ltr (pk p)) V S := by
  obtain ⟨y1, y2, -⟩ := yk_e h p0
  have e : ∀ c : Int, 0 ≤ c → c < 128 → (yk n pk p = c) = (pk p = c) := fun c c0 c1 => propext (y2 c c0 c1)
  rw [I_Reader_letterAt, c_peek hS h hp p0 p1, y1, e 99 (by omega) (by omega), e 100 (by omega) (by omega), e 101 (by omega) (by omega), e 102 (by omega) (by omega), e 103 (by omega) (by omega), e 104 (by omega) (by omega), e 105 (by omega) (by omega), e 106 (by omega) (by omega), e 107 (by omega) (by omega), e 108 (by omega) (by omega), e 109 (by omega) (by omega), e 110 (by omega) (by omega), e 111 (by omega) (by omega)]
  generalize pk p = x
  unfold ltr
  rcases (by omega : x = 99 ∨ x = 100 ∨ x = 101 ∨ x = 102 ∨ x = 103 ∨ x = 104 ∨ x = 105 ∨ x = 106 ∨ x = 107 ∨ x = 108 ∨ x = 109 ∨ x = 110 ∨ x = 111 ∨ (x ≠ 99 ∧ x ≠ 100 ∧ x ≠ 101 ∧ x ≠ 102 ∧ x ≠ 103 ∧ x ≠ 104 ∧ x ≠ 105 ∧ x ≠ 106 ∧ x ≠ 107 ∧ x ≠ 108 ∧ x ≠ 109 ∧ x ≠ 110 ∧ x ≠ 111)) with h | h | h | h | h | h | h | h | h | h | h | h | h | ⟨h1, h2, h3, h4, h5, h6, h7, h8, h9, h10, h11, h12, h13⟩
  all_goals first | (subst h; simp only [hS.k104, b_s32, b_eq0, b_01, l0, l1, true_and, and_true, and_self, true_implies, false_implies, implies_true, forall_const, not_true_eq_false, not_false_eq_true, reduceIte, ite_true, ite_false, reduceCtorEq, forall_eq, Classical.not_not, true_or, or_true, false_or, or_false, and_false, false_and, Int.reduceEq, Int.reduceLT, Int.reduceLE, Int.reduceAdd, Int.reduceSub, Int.reduceMul, Int.reduceNeg]; done) | simp only [hS.k104, h1, h2, h3, h4, h5, h6, h7, h8, h9, h10, h11, h12, h13, b_s32, b_eq0, b_01, l0, l1, true_and, and_true, and_self, true_implies, false_implies, implies_true, forall_const, not_true_eq_false, not_false_eq_true, reduceIte, ite_true, ite_false, reduceCtorEq, forall_eq, Classical.not_not, true_or, or_true, false_or, or_false, and_false, false_and, Int.reduceEq, Int.reduceLT, Int.reduceLE, Int.reduceAdd, Int.reduceSub, Int.reduceMul, Int.reduceNeg]
theorem c_test (hS : FS S) (hT : TXa T) (hk : TXk T S) (h : CSTT pk n T V p) (hQ : ∀ V', CP pk n T (pTest pk p) p V V' → Q (if (pTest pk p).1 = true then 1 else 0) V' S) : C_Reader_readTest (d + 6) 104 T V S Q := by
  obtain ⟨hR, hv, ⟨hp, p0, p1⟩, ⟨s0, s1⟩⟩ := id h
  obtain ⟨t1, t2, t3⟩ := id hT
  have hn := hR.2.1.2
  rw [I_Reader_readTest, c_letter hS hR hp p0 p1]
  rcases ltr_r (x := pk p) with ⟨c1, c1'⟩ | ⟨c1, c1', c1''⟩
  · have hv2 : pTest pk p = (false, p, []) := by unfold pTest; rw [if_pos c1]
    rw [hv2] at hQ
    have := hQ V ⟨XFR.rf, hp, fun q => by cases q⟩
    rw [if_neg (by simp)] at this
    simp (disch := omega) only [hS.k104, s32_id, c1, this, b_s32, b_eq0, b_01, l0, l1, true_and, and_true, and_self, true_implies, false_implies, implies_true, forall_const, not_true_eq_false, not_false_eq_true, reduceIte, ite_true, ite_false, reduceCtorEq, forall_eq, Classical.not_not, true_or, or_true, false_or, or_false, and_false, false_and, Int.reduceEq, Int.reduceLT, Int.reduceLE, Int.reduceAdd, Int.reduceSub, Int.reduceMul, Int.reduceNeg]
  · have ln := hR.lt (p := p) (by omega)
    have sl : s32 (ltr (pk p)) = ltr (pk p) := s32_id (by omega) (by omega)
    have f1 : AFR V (up2 V 104 2 (p + 1)) := AFR.rf.up
    have hR1 := hR.af f1
    have g1 : (up2 V 104 2 (p + 1)) 104 2 = p + 1 := up2_eq rfl rfl
    have sk := fun (c : Int) (h0 : 0 ≤ c) (h1 : c < 128) (Q : Int → Mem → Shp → Prop) => c_skip (d := d + 3) (c := c) (Q := Q) hS hR1 g1 (by omega) (by omega) h0 h1
    have sk0 := sk 60 (by omega) (by omega)
    have sk1 := sk 61 (by omega) (by omega)
    have sk2 := sk 62 (by omega) (by omega)
    have sneg : s32 (-1) = -1 := s32_id (by omega) (by omega)
    have done : ∀ (sg : Int), 0 ≤ sg → sg ≤ 2 → pk (p + 1) = 60 + sg → C_Reader_readNumber (d + 5) 104 (up2 (up2 V 104 2 (p + 1)) 104 2 (p + 1 + 1)) S (fun r6 V6 S6 => (s32 r6 < 0 → Q 0 V6 S6) ∧ (¬ s32 r6 < 0 → C_Text_addStep (d + 5) T ((ltr (pk p) * 3 + sg) * 1000 + r6) V6 S6 (fun V7 S7 => Q 1 V7 S7))) := by
      intro sg g0 g2 hsg
      have ln1 := hR.lt (p := p + 1) (by omega)
      have hsgn : sgn (pk (p + 1)) = sg := by
        rw [hsg]
        unfold sgn
        rcases (by omega : sg = 0 ∨ sg = 1 ∨ sg = 2) with rfl | rfl | rfl <;> decide
      have f2 : AFR V (up2 (up2 V 104 2 (p + 1)) 104 2 (p + 1 + 1)) := f1.up
      refine c_number (d := d + 2) hS (hR.af f2) (up2_eq rfl rfl) (by omega) (by omega) ?_
      rw [show p + 1 + 1 = p + 2 from by omega] at f2 ⊢
      intro V' a1 a2 a3 a4 a5
      by_cases c3 : (nmP pk (p + 2)).1 = true
      · obtain ⟨d1, d2, d3⟩ := a5 c3
        have hv2 : pTest pk p = (true, (nmP pk (p + 2)).2.1, [(ltr (pk p) * 3 + sgn (pk (p + 1))) * 1000 + (nmP pk (p + 2)).2.2]) := by
          unfold pTest
          rw [if_neg (by omega), if_neg (by omega)]
          show (bif (nmP pk (p + 2)).1 then _ else _) = _
          rw [c3]
          rfl
        rw [hv2, hsgn] at hQ
        rw [if_pos c3]
        have f3 := f2.tr a1
        have s6 : V' T 6 = V T 6 := f3 _ _ (by omega)
        simp (disch := omega) only [s32_id, show ¬ (nmP pk (p + 2)).2.2 < 0 from by omega, b_s32, b_eq0, b_01, l0, l1, true_and, and_true, and_self, true_implies, false_implies, implies_true, forall_const, not_true_eq_false, not_false_eq_true, reduceIte, ite_true, ite_false, reduceCtorEq, forall_eq, Classical.not_not, true_or, or_true, false_or, or_false, and_false, false_and, Int.reduceEq, Int.reduceLT, Int.reduceLE, Int.reduceAdd, Int.reduceSub, Int.reduceMul, Int.reduceNeg]
        refine c_addStep hT hk (hv.xf hT f3.xf) (by omega) (by omega) (fun V2 b1 b2 b3 => ?_)
        have := hQ V2 ⟨f3.xf.tr b1, b3.trans a2, fun _ => ⟨(APP.nil.af f3 t1).app b2, ⟨(hR.af f3).xf b1 t1 t2 t3, (hv.xf hT f3.xf).xf hT b1, ⟨b3.trans a2, by show 0 ≤ (nmP pk (p + 2)).2.1; omega, a4⟩, ⟨by rw [b2.1]; show 0 ≤ V' T 6 + ((1 : Nat) : Int); omega, by rw [b2.1]; show V' T 6 + ((1 : Nat) : Int) ≤ (nmP pk (p + 2)).2.1; omega⟩⟩, by show ((1 : Nat) : Int) ≤ (nmP pk (p + 2)).2.1 - p; omega, by show p < (nmP pk (p + 2)).2.1; omega⟩⟩
        rw [if_pos rfl] at this
        exact this
      · have c3' := nf c3
        have hv2 : pTest pk p = (false, (nmP pk (p + 2)).2.1, []) := by
          unfold pTest
          rw [if_neg (by omega), if_neg (by omega)]
          show (bif (nmP pk (p + 2)).1 then _ else _) = _
          rw [c3']
          rfl
        rw [hv2] at hQ
        rw [if_neg c3]
        have := hQ V' ⟨(f2.tr a1).xf, a2, fun q => by cases q⟩
        rw [if_neg (by simp)] at this
        simp (disch := omega) only [sneg, this, b_s32, b_eq0, b_01, l0, l1, true_and, and_true, and_self, true_implies, false_implies, implies_true, forall_const, not_true_eq_false, not_false_eq_true, reduceIte, ite_true, ite_false, reduceCtorEq, forall_eq, Classical.not_not, true_or, or_true, false_or, or_false, and_false, false_and, Int.reduceEq, Int.reduceLT, Int.reduceLE, Int.reduceAdd, Int.reduceSub, Int.reduceMul, Int.reduceNeg]
    simp (disch := omega) only [hS.k104, sl, hp, show ¬ ltr (pk p) < 0 from by omega, b_s32, b_eq0, b_01, l0, l1, true_and, and_true, and_self, true_implies, false_implies, implies_true, forall_const, not_true_eq_false, not_false_eq_true, reduceIte, ite_true, ite_false, reduceCtorEq, forall_eq, Classical.not_not, true_or, or_true, false_or, or_false, and_false, false_and, Int.reduceEq, Int.reduceLT, Int.reduceLE, Int.reduceAdd, Int.reduceSub, Int.reduceMul, Int.reduceNeg]
    rw [sk0]
    by_cases e0 : pk (p + 1) = 60
    · rw [if_pos e0]
      have := done 0 (by omega) (by omega) (by omega)
      simp (disch := omega) only [s32_id (x := 1), b_s32, b_eq0, b_01, l0, l1, true_and, and_true, and_self, true_implies, false_implies, implies_true, forall_const, not_true_eq_false, not_false_eq_true, reduceIte, ite_true, ite_false, reduceCtorEq, forall_eq, Classical.not_not, true_or, or_true, false_or, or_false, and_false, false_and, Int.reduceEq, Int.reduceLT, Int.reduceLE, Int.reduceAdd, Int.reduceSub, Int.reduceMul, Int.reduceNeg]
      exact this
    · rw [if_neg e0]
      simp (disch := omega) only [s32_id (x := 0), b_s32, b_eq0, b_01, l0, l1, true_and, and_true, and_self, true_implies, false_implies, implies_true, forall_const, not_true_eq_false, not_false_eq_true, reduceIte, ite_true, ite_false, reduceCtorEq, forall_eq, Classical.not_not, true_or, or_true, false_or, or_false, and_false, false_and, Int.reduceEq, Int.reduceLT, Int.reduceLE, Int.reduceAdd, Int.reduceSub, Int.reduceMul, Int.reduceNeg]
      rw [sk1]
      by_cases e1 : pk (p + 1) = 61
      · rw [if_pos e1]
        have := done 1 (by omega) (by omega) (by omega)
        simp (disch := omega) only [s32_id (x := 1), b_s32, b_eq0, b_01, l0, l1, true_and, and_true, and_self, true_implies, false_implies, implies_true, forall_const, not_true_eq_false, not_false_eq_true, reduceIte, ite_true, ite_false, reduceCtorEq, forall_eq, Classical.not_not, true_or, or_true, false_or, or_false, and_false, false_and, Int.reduceEq, Int.reduceLT, Int.reduceLE, Int.reduceAdd, Int.reduceSub, Int.reduceMul, Int.reduceNeg]
        exact this
      · rw [if_neg e1]
        simp (disch := omega) only [s32_id (x := 0), b_s32, b_eq0, b_01, l0, l1, true_and, and_true, and_self, true_implies, false_implies, implies_true, forall_const, not_true_eq_false, not_false_eq_true, reduceIte, ite_true, ite_false, reduceCtorEq, forall_eq, Classical.not_not, true_or, or_true, false_or, or_false, and_false, false_and, Int.reduceEq, Int.reduceLT, Int.reduceLE, Int.reduceAdd, Int.reduceSub, Int.reduceMul, Int.reduceNeg]
        rw [sk2]
        by_cases e2 : pk (p + 1) = 62
        · rw [if_pos e2]
          have := done 2 (by omega) (by omega) (by omega)
          simp (disch := omega) only [s32_id (x := 1), s32_id (x := 2), b_s32, b_eq0, b_01, l0, l1, true_and, and_true, and_self, true_implies, false_implies, implies_true, forall_const, not_true_eq_false, not_false_eq_true, reduceIte, ite_true, ite_false, reduceCtorEq, forall_eq, Classical.not_not, true_or, or_true, false_or, or_false, and_false, false_and, Int.reduceEq, Int.reduceLT, Int.reduceLE, Int.reduceAdd, Int.reduceSub, Int.reduceMul, Int.reduceNeg]
          exact this
        · rw [if_neg e2]
          have hsgn : sgn (pk (p + 1)) = -1 := by
            unfold sgn
            rw [if_neg e0, if_neg e1, if_neg e2]
          have hv2 : pTest pk p = (false, p + 1, []) := by unfold pTest; rw [if_neg (by omega), if_pos (by omega)]
          rw [hv2] at hQ
          have := hQ _ ⟨f1.xf, g1, fun q => by cases q⟩
          rw [if_neg (by simp)] at this
          simp (disch := omega) only [s32_id (x := 0), sneg, this, b_s32, b_eq0, b_01, l0, l1, true_and, and_true, and_self, true_implies, false_implies, implies_true, forall_const, not_true_eq_false, not_false_eq_true, reduceIte, ite_true, ite_false, reduceCtorEq, forall_eq, Classical.not_not, true_or, or_true, false_or, or_false, and_false, false_and, Int.reduceEq, Int.reduceLT, Int.reduceLE, Int.reduceAdd, Int.reduceSub, Int.reduceMul, Int.reduceNeg]
end CR
