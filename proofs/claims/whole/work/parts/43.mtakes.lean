/-! the model's reading of tests follows the grammar: by levels -/
def tW (ot : Option Bool) (X : List Int) : List Int := match ot with
  | none => X
  | some _ => 38 :: X
def eW (oe : Option Bool) (B : List Int) : List Int := match oe with
  | none => B
  | some _ => 124 :: B
def tP (ot : Option Bool) (f : Bool) (R : List Bool) : List Bool := match ot with
  | none => f :: R
  | some t => f :: t :: R
def eR (oe : Option Bool) (P0 : List Bool) : List Bool := match oe with
  | none => P0
  | some e => e :: P0
def tv (ot : Option Bool) (f : Bool) : Bool := match ot with
  | none => f
  | some t => t && f
def evv (oe : Option Bool) (t : Bool) : Bool := match oe with
  | none => t
  | some e => e || t
def BASE (B : List Int) : Prop := B = [] ∨ ∃ r, B = 40 :: r
section MT
variable {d : Nat} {b n : Int} {pk fx : Int → Int} {S : Shp} {B : List Int} {P0 : List Bool}
theorem tW_s {X : List Int} (ot : Option Bool) (hX : strip X = X ∧ par X = false) : strip (tW ot X) = tW ot X ∧ par (tW ot X) = false := by
  cases ot
  · exact hX
  · exact ⟨rfl, rfl⟩
theorem eW_s (oe : Option Bool) (hB : BASE B) : strip (eW oe B) = eW oe B ∧ par (eW oe B) = false := by
  cases oe
  · rcases hB with rfl | ⟨r, rfl⟩
    · exact ⟨rfl, rfl⟩
    · exact ⟨rfl, rfl⟩
  · exact ⟨rfl, rfl⟩
theorem tW_op {X : List Int} (ot : Option Bool) : op (tW ot X) = op X := by cases ot <;> rfl
theorem eW_op (oe : Option Bool) : op (eW oe B) = op B := by cases oe <;> rfl
theorem sh38 (d : Nat) (hS : FS S) (hB : BASE B) {V : Mem} {p : Int} {oe ot : Option Bool} {f : Bool} (h : ES pk b n fx V (tW ot (eW oe B)) (tP ot f (eR oe P0)) p) (U : Mem → Shp → Prop) (hU : ∀ V', EFR V V' → ES pk b n fx V' (eW oe B) (tv ot f :: eR oe P0) p → U V' S) : C_m_settle (d + 1) 137 38 V S U := by
  have s38 : s32 38 = 38 := by decide
  have stop : ∀ (V' : Mem) (P : List Bool), ES pk b n fx V' (eW oe B) P p → U V' S → K_m_settle d U (0, [(2, 137), (0, 38)], [], V', S, (0, 0)) := by
    intro V' P e hu
    refine set_0 hS e ?_ s38 hu
    cases oe
    · rcases hB with rfl | ⟨r, rfl⟩
      · exact Or.inl rfl
      · exact Or.inr ⟨40, r, rfl, by omega, fun q => by omega⟩
    · exact Or.inr ⟨124, B, rfl, by omega, fun _ => rfl⟩
  rw [set_C hS]
  cases ot
  · exact stop V _ h (hU V EFR.rf h)
  · rename_i t
    exact set_1 (a1 := t) (a2 := f) hS h (Or.inl rfl) s38 (fun V' f1 e1 => stop V' _ e1 (hU V' f1 e1))
theorem sh124 (d : Nat) (hS : FS S) (hB : BASE B) {V : Mem} {p : Int} {oe ot : Option Bool} {f : Bool} (h : ES pk b n fx V (tW ot (eW oe B)) (tP ot f (eR oe P0)) p) (U : Mem → Shp → Prop) (hU : ∀ V', EFR V V' → ES pk b n fx V' B (evv oe (tv ot f) :: P0) p → U V' S) : C_m_settle (d + 1) 137 124 V S U := by
  have s124 : s32 124 = 124 := by decide
  have stop : ∀ (V' : Mem) (P : List Bool), ES pk b n fx V' B P p → U V' S → K_m_settle d U (0, [(2, 137), (0, 124)], [], V', S, (0, 0)) := by
    intro V' P e hu
    refine set_0 hS e ?_ s124 hu
    rcases hB with rfl | ⟨r, rfl⟩
    · exact Or.inl rfl
    · exact Or.inr ⟨40, r, rfl, by omega, fun q => by omega⟩
  have st2 : ∀ (V' : Mem) (t : Bool), EFR V V' → ES pk b n fx V' (eW oe B) (t :: eR oe P0) p → t = tv ot f → K_m_settle d U (0, [(2, 137), (0, 124)], [], V', S, (0, 0)) := by
    intro V' t f1 e1 et
    subst et
    cases oe
    · exact stop V' _ e1 (hU V' f1 e1)
    · rename_i e
      exact set_1 (a1 := e) (a2 := tv ot f) hS e1 (Or.inr ⟨rfl, by omega⟩) s124 (fun V2 f2 e2 => stop V2 _ e2 (hU V2 (f1.tr f2) e2))
  rw [set_C hS]
  cases ot
  · exact st2 V f EFR.rf h rfl
  · rename_i t
    exact set_1 (a1 := t) (a2 := f) hS h (Or.inl rfl) s124 (fun V' f1 e1 => st2 V' _ f1 e1 rfl)
def SimF (d : Nat) (pk : Int → Int) (b n : Int) (fx : Int → Int) (S : Shp) (k : Nat) : Prop := ∀ (p : Int) (V : Mem) (W : List Int) (P : List Bool) (u : XV) (g : Cnt) (Q : Int → Mem → Shp → Prop), ES pk b n fx V W P p → op W = 4 - (k : Int) → ((pF pk k p).1 = false → ∀ V', EFR V V' → V' 137 32 = (pF pk k p).2.1 → Q 0 V' S) → ((pF pk k p).1 = true → ∀ v, RP fx (pF pk k p).2.2 v (2 * k + 1) → ∀ V' u, EFR V V' → ES pk b n fx V' (strip W) ((v ^^ par W) :: P) (pF pk k p).2.1 → p < (pF pk k p).2.1 → K_m_takesE (d + 7) Q (17, [(2, 137), (0, 0), u], [], V', S, g)) → K_m_takesE (d + 7) Q (17, [(2, 137), (0, 1), u], [], V, S, g)
theorem xf (v : Bool) : (v ^^ false) = v := by cases v <;> rfl
theorem simTl (hS : FS S) {k : Nat} (hF : SimF d pk b n fx S k) (hB : BASE B) (ho : op B = 4 - (k : Int)) {oe : Option Bool} {g : Cnt} {Q : Int → Mem → Shp → Prop} : ∀ (N : Nat) (p : Int) (V : Mem) (ot : Option Bool) (f : Bool) (L : List Int) (u : XV), ES pk b n fx V (tW ot (eW oe B)) (tP ot f (eR oe P0)) p → RP fx L (tv ot f) (2 * k + 2) → 100 ≤ (N : Int) + p → ((pLoop pk 38 (-2) (pF pk k) N p L).1 = false → ∀ V', EFR V V' → V' 137 32 = (pLoop pk 38 (-2) (pF pk k) N p L).2.1 → Q 0 V' S) → ((pLoop pk 38 (-2) (pF pk k) N p L).1 = true → ∀ ot' f' V' u, RP fx (pLoop pk 38 (-2) (pF pk k) N p L).2.2 (tv ot' f') (2 * k + 2) → EFR V V' → ES pk b n fx V' (tW ot' (eW oe B)) (tP ot' f' (eR oe P0)) (pLoop pk 38 (-2) (pF pk k) N p L).2.1 → p ≤ (pLoop pk 38 (-2) (pF pk k) N p L).2.1 → pk (pLoop pk 38 (-2) (pF pk k) N p L).2.1 ≠ 38 → K_m_takesE (d + 7) Q (17, [(2, 137), (0, 0), u], [], V', S, g)) → K_m_takesE (d + 7) Q (17, [(2, 137), (0, 0), u], [], V, S, g) := by
  intro N
  induction N with
  | zero =>
    intro p V ot f L u h hR hp hQ hK
    have hn := h.1.2.2.1.2
    have h38 : pk p ≠ 38 := by
      have := h.1.2.2.2.2.1 p (by omega)
      omega
    exact hK rfl ot f V u hR EFR.rf h (Int.le_refl _) h38
  | succ N ih =>
    intro p V ot f L u h hR hp hQ hK
    by_cases c : pk p = 38
    · refine e_sign hS h c (Or.inl rfl) (fun U hU => sh38 (d + 6) hS hB h U hU) (fun V1 f1 e1 => ?_)
      have hl : pLoop pk 38 (-2) (pF pk k) (N + 1) p L = bif (pF pk k (p + 1)).1 then pLoop pk 38 (-2) (pF pk k) N (pF pk k (p + 1)).2.1 (L ++ (pF pk k (p + 1)).2.2 ++ [-2]) else (false, (pF pk k (p + 1)).2.1, []) := by
        show (if pk p = 38 then _ else _) = _
        rw [if_pos c]
      refine hF (p + 1) V1 _ _ _ g Q e1 (by show op (38 :: eW oe B) = _; rw [show op (38 :: eW oe B) = op (eW oe B) from rfl, eW_op]; exact ho) (fun q V2 f2 e2 => ?_) (fun q v hv V2 u2 f2 e2 lt2 => ?_)
      · rw [hl, q] at hQ
        exact hQ rfl V2 (f1.tr f2) e2
      · rw [hl, q] at hQ hK
        rw [show strip (38 :: eW oe B) = 38 :: eW oe B from rfl, show par (38 :: eW oe B) = false from rfl, xf] at e2
        refine ih _ V2 (some (tv ot f)) v _ u2 e2 (hR.and hv (Nat.le_refl _) (by omega)) (by omega) (fun q3 V3 f3 e3 => hQ q3 V3 ((f1.tr f2).tr f3) e3) (fun q3 ot' f' V3 u3 r3 f3 e3 l3 => hK q3 ot' f' V3 u3 r3 ((f1.tr f2).tr f3) e3 ?_)
        have l3 : (pF pk k (p + 1)).2.1 ≤ (pLoop pk 38 (-2) (pF pk k) N (pF pk k (p + 1)).2.1 (L ++ (pF pk k (p + 1)).2.2 ++ [-2])).2.1 := l3
        show p ≤ (pLoop pk 38 (-2) (pF pk k) N (pF pk k (p + 1)).2.1 (L ++ (pF pk k (p + 1)).2.2 ++ [-2])).2.1
        omega
    · have hl : pLoop pk 38 (-2) (pF pk k) (N + 1) p L = (true, p, L) := by
        show (if pk p = 38 then _ else _) = _
        rw [if_neg c]
      rw [hl] at hK
      exact hK rfl ot f V u hR EFR.rf h (Int.le_refl _) c
theorem simT (hS : FS S) {k : Nat} (hF : SimF d pk b n fx S k) (hB : BASE B) (ho : op B = 4 - (k : Int)) {oe : Option Bool} {g : Cnt} {Q : Int → Mem → Shp → Prop} {p : Int} {V : Mem} {u : XV} (h : ES pk b n fx V (eW oe B) (eR oe P0) p) (hQ : (pT pk (pF pk k) p).1 = false → ∀ V', EFR V V' → V' 137 32 = (pT pk (pF pk k) p).2.1 → Q 0 V' S) (hK : (pT pk (pF pk k) p).1 = true → ∀ ot' f' V' u, RP fx (pT pk (pF pk k) p).2.2 (tv ot' f') (2 * k + 2) → EFR V V' → ES pk b n fx V' (tW ot' (eW oe B)) (tP ot' f' (eR oe P0)) (pT pk (pF pk k) p).2.1 → p < (pT pk (pF pk k) p).2.1 → pk (pT pk (pF pk k) p).2.1 ≠ 38 → K_m_takesE (d + 7) Q (17, [(2, 137), (0, 0), u], [], V', S, g)) : K_m_takesE (d + 7) Q (17, [(2, 137), (0, 1), u], [], V, S, g) := by
  have hl : pT pk (pF pk k) p = bif (pF pk k p).1 then pLoop pk 38 (-2) (pF pk k) 100 (pF pk k p).2.1 (pF pk k p).2.2 else (false, (pF pk k p).2.1, []) := rfl
  have p0 := h.2.2.2.2.2.2.1
  obtain ⟨s1, s2⟩ := eW_s oe hB
  refine hF p V _ _ _ g Q h (by rw [eW_op]; exact ho) (fun q V2 f2 e2 => ?_) (fun q v hv V2 u2 f2 e2 lt2 => ?_)
  · rw [hl, q] at hQ
    exact hQ rfl V2 f2 e2
  · rw [hl, q] at hQ hK
    rw [s1, s2, xf] at e2
    refine simTl hS hF hB ho 100 _ V2 none v _ u2 e2 (hv.mono (by omega)) (by omega) (fun q3 V3 f3 e3 => hQ q3 V3 (f2.tr f3) e3) (fun q3 ot' f' V3 u3 r3 f3 e3 l3 => hK q3 ot' f' V3 u3 r3 (f2.tr f3) e3 ?_)
    show p < (pLoop pk 38 (-2) (pF pk k) 100 (pF pk k p).2.1 (pF pk k p).2.2).2.1
    omega
theorem simEl (hS : FS S) {k : Nat} (hF : SimF d pk b n fx S k) (hB : BASE B) (ho : op B = 4 - (k : Int)) {g : Cnt} {Q : Int → Mem → Shp → Prop} : ∀ (N : Nat) (p : Int) (V : Mem) (oe ot : Option Bool) (f : Bool) (L : List Int) (u : XV), ES pk b n fx V (tW ot (eW oe B)) (tP ot f (eR oe P0)) p → RP fx L (evv oe (tv ot f)) (2 * k + 3) → pk p ≠ 38 → 100 ≤ (N : Int) + p → ((pLoop pk 124 (-3) (pT pk (pF pk k)) N p L).1 = false → ∀ V', EFR V V' → V' 137 32 = (pLoop pk 124 (-3) (pT pk (pF pk k)) N p L).2.1 → Q 0 V' S) → ((pLoop pk 124 (-3) (pT pk (pF pk k)) N p L).1 = true → ∀ oe' ot' f' V' u, RP fx (pLoop pk 124 (-3) (pT pk (pF pk k)) N p L).2.2 (evv oe' (tv ot' f')) (2 * k + 3) → EFR V V' → ES pk b n fx V' (tW ot' (eW oe' B)) (tP ot' f' (eR oe' P0)) (pLoop pk 124 (-3) (pT pk (pF pk k)) N p L).2.1 → p ≤ (pLoop pk 124 (-3) (pT pk (pF pk k)) N p L).2.1 → (pk (pLoop pk 124 (-3) (pT pk (pF pk k)) N p L).2.1 ≠ 38 ∧ pk (pLoop pk 124 (-3) (pT pk (pF pk k)) N p L).2.1 ≠ 124) → K_m_takesE (d + 7) Q (17, [(2, 137), (0, 0), u], [], V', S, g)) → K_m_takesE (d + 7) Q (17, [(2, 137), (0, 0), u], [], V, S, g) := by
  intro N
  induction N with
  | zero =>
    intro p V oe ot f L u h hR h38 hp hQ hK
    have hn := h.1.2.2.1.2
    have h124 : pk p ≠ 124 := by
      have := h.1.2.2.2.2.1 p (by omega)
      omega
    exact hK rfl oe ot f V u hR EFR.rf h (Int.le_refl _) ⟨h38, h124⟩
  | succ N ih =>
    intro p V oe ot f L u h hR h38 hp hQ hK
    by_cases c : pk p = 124
    · refine e_sign hS h c (Or.inr rfl) (fun U hU => sh124 (d + 6) hS hB h U hU) (fun V1 f1 e1 => ?_)
      have hl : pLoop pk 124 (-3) (pT pk (pF pk k)) (N + 1) p L = bif (pT pk (pF pk k) (p + 1)).1 then pLoop pk 124 (-3) (pT pk (pF pk k)) N (pT pk (pF pk k) (p + 1)).2.1 (L ++ (pT pk (pF pk k) (p + 1)).2.2 ++ [-3]) else (false, (pT pk (pF pk k) (p + 1)).2.1, []) := by
        show (if pk p = 124 then _ else _) = _
        rw [if_pos c]
      refine simT hS hF hB ho (oe := some (evv oe (tv ot f))) e1 (fun q V2 f2 e2 => ?_) (fun q ot2 f2' V2 u2 r2 f2 e2 lt2 n38 => ?_)
      · rw [hl, q] at hQ
        exact hQ rfl V2 (f1.tr f2) e2
      · rw [hl, q] at hQ hK
        refine ih _ V2 (some (evv oe (tv ot f))) ot2 f2' _ u2 e2 (hR.or r2 (Nat.le_refl _) (by omega)) n38 (by omega) (fun q3 V3 f3 e3 => hQ q3 V3 ((f1.tr f2).tr f3) e3) (fun q3 oe' ot' f' V3 u3 r3 f3 e3 l3 => hK q3 oe' ot' f' V3 u3 r3 ((f1.tr f2).tr f3) e3 ?_)
        show p ≤ (pLoop pk 124 (-3) (pT pk (pF pk k)) N (pT pk (pF pk k) (p + 1)).2.1 (L ++ (pT pk (pF pk k) (p + 1)).2.2 ++ [-3])).2.1
        omega
    · have hl : pLoop pk 124 (-3) (pT pk (pF pk k)) (N + 1) p L = (true, p, L) := by
        show (if pk p = 124 then _ else _) = _
        rw [if_neg c]
      rw [hl] at hK
      exact hK rfl oe ot f V u hR EFR.rf h (Int.le_refl _) ⟨h38, c⟩
theorem simE (hS : FS S) {k : Nat} (hF : SimF d pk b n fx S k) (hB : BASE B) (ho : op B = 4 - (k : Int)) {g : Cnt} {Q : Int → Mem → Shp → Prop} {p : Int} {V : Mem} {u : XV} (h : ES pk b n fx V B P0 p) (hQ : (pE pk (pF pk k) p).1 = false → ∀ V', EFR V V' → V' 137 32 = (pE pk (pF pk k) p).2.1 → Q 0 V' S) (hK : (pE pk (pF pk k) p).1 = true → ∀ oe' ot' f' V' u, RP fx (pE pk (pF pk k) p).2.2 (evv oe' (tv ot' f')) (2 * k + 3) → EFR V V' → ES pk b n fx V' (tW ot' (eW oe' B)) (tP ot' f' (eR oe' P0)) (pE pk (pF pk k) p).2.1 → p < (pE pk (pF pk k) p).2.1 → (pk (pE pk (pF pk k) p).2.1 ≠ 38 ∧ pk (pE pk (pF pk k) p).2.1 ≠ 124) → K_m_takesE (d + 7) Q (17, [(2, 137), (0, 0), u], [], V', S, g)) : K_m_takesE (d + 7) Q (17, [(2, 137), (0, 1), u], [], V, S, g) := by
  have hl : pE pk (pF pk k) p = bif (pT pk (pF pk k) p).1 then pLoop pk 124 (-3) (pT pk (pF pk k)) 100 (pT pk (pF pk k) p).2.1 (pT pk (pF pk k) p).2.2 else (false, (pT pk (pF pk k) p).2.1, []) := rfl
  have p0 := h.2.2.2.2.2.2.1
  refine simT hS hF hB ho (oe := none) h (fun q V2 f2 e2 => ?_) (fun q ot2 f2' V2 u2 r2 f2 e2 lt2 n38 => ?_)
  · rw [hl, q] at hQ
    exact hQ rfl V2 f2 e2
  · rw [hl, q] at hQ hK
    refine simEl hS hF hB ho 100 _ V2 none ot2 f2' _ u2 e2 (r2.mono (by omega)) n38 (by omega) (fun q3 V3 f3 e3 => hQ q3 V3 (f2.tr f3) e3) (fun q3 oe' ot' f' V3 u3 r3 f3 e3 l3 => hK q3 oe' ot' f' V3 u3 r3 (f2.tr f3) e3 ?_)
    show p < (pLoop pk 124 (-3) (pT pk (pF pk k)) 100 (pT pk (pF pk k) p).2.1 (pT pk (pF pk k) p).2.2).2.1
    omega
theorem ltr_33 : ltr 33 = -1 ∧ ltr 40 = -1 := by decide
theorem simF_all (hS : FS S) : ∀ k : Nat, SimF d pk b n fx S k := by
  intro k
  induction k with
  | zero =>
    intro p V W P u g Q h ho hQ hK
    have ho : op W = 4 := by omega
    by_cases c : pk p = 33 ∨ pk p = 40
    · have hv : pF pk 0 p = (false, p, []) := by
        show pTest pk p = _
        unfold pTest
        rw [if_pos (by rcases c with c | c <;> rw [c] <;> decide)]
      rw [hv] at hQ
      exact e_full hS h rfl c ho (hQ rfl V EFR.rf h.2.2.2.2.2.1)
    · exact e_test hS h ⟨fun q => c (Or.inl q), fun q => c (Or.inr q)⟩ hQ hK
  | succ k ih =>
    intro p V W P u g Q h ho hQ hK
    by_cases c : pk p = 33
    · have hv : pF pk (k + 1) p = (bif (pF pk k (p + 1)).1 then (true, (pF pk k (p + 1)).2.1, (pF pk k (p + 1)).2.2 ++ [-1]) else (false, (pF pk k (p + 1)).2.1, [])) := by
        show (if pk p = 33 then _ else _) = _
        rw [if_pos c]
      refine e_open hS h c (Or.inl rfl) (by omega) (fun V1 f1 e1 => ?_)
      refine ih (p + 1) V1 _ _ _ g Q e1 (by rw [show op (33 :: W) = op W + 1 from rfl]; omega) (fun q V2 f2 e2 => ?_) (fun q v hv' V2 u2 f2 e2 lt2 => ?_)
      · rw [hv, q] at hQ
        exact hQ rfl V2 (f1.tr f2) e2
      · rw [hv, q] at hK
        rw [show strip (33 :: W) = strip W from rfl, show par (33 :: W) = !(par W) from rfl, show (v ^^ !(par W)) = ((!v) ^^ par W) from by cases v <;> cases par W <;> rfl] at e2
        refine hK rfl (!v) (hv'.not.mono (by omega)) V2 u2 (f1.tr f2) e2 ?_
        show p < (pF pk k (p + 1)).2.1
        omega
    · by_cases c2 : pk p = 40
      · have hv : pF pk (k + 1) p = (bif (pE pk (pF pk k) (p + 1)).1 then (if pk (pE pk (pF pk k) (p + 1)).2.1 = 41 then (true, (pE pk (pF pk k) (p + 1)).2.1 + 1, (pE pk (pF pk k) (p + 1)).2.2) else (false, (pE pk (pF pk k) (p + 1)).2.1, [])) else (false, (pE pk (pF pk k) (p + 1)).2.1, [])) := by
          show (if pk p = 33 then _ else if pk p = 40 then _ else _) = _
          rw [if_neg c, if_pos c2]
        have hB : BASE (40 :: W) := Or.inr ⟨W, rfl⟩
        refine e_open hS h c2 (Or.inr rfl) (by omega) (fun V1 f1 e1 => ?_)
        refine simE hS ih hB (by rw [show op (40 :: W) = op W + 1 from rfl]; omega) e1 (fun q V2 f2 e2 => ?_) (fun q oe' ot' f' V2 u2 r2 f2 e2 lt2 n2 => ?_)
        · rw [hv, q] at hQ
          exact hQ rfl V2 (f1.tr f2) e2
        · rw [hv, q] at hQ hK
          refine e_end2 hS e2 n2 (fun U hU => sh124 (d + 6) hS hB e2 U hU) (fun c3 V3 f3 e3 => ?_) (fun c3 V3 u3 f3 e3 => ?_)
          · have hv2 : (bif true then (if pk (pE pk (pF pk k) (p + 1)).2.1 = 41 then (true, (pE pk (pF pk k) (p + 1)).2.1 + 1, (pE pk (pF pk k) (p + 1)).2.2) else (false, (pE pk (pF pk k) (p + 1)).2.1, [])) else (false, (pE pk (pF pk k) (p + 1)).2.1, [])) = ((false, (pE pk (pF pk k) (p + 1)).2.1, []) : PR) := by
              show (if pk (pE pk (pF pk k) (p + 1)).2.1 = 41 then _ else _) = _
              rw [if_neg c3]
            rw [hv2] at hQ
            exact hQ rfl V3 ((f1.tr f2).tr f3) e3
          · have hv2 : (bif true then (if pk (pE pk (pF pk k) (p + 1)).2.1 = 41 then (true, (pE pk (pF pk k) (p + 1)).2.1 + 1, (pE pk (pF pk k) (p + 1)).2.2) else (false, (pE pk (pF pk k) (p + 1)).2.1, [])) else (false, (pE pk (pF pk k) (p + 1)).2.1, [])) = ((true, (pE pk (pF pk k) (p + 1)).2.1 + 1, (pE pk (pF pk k) (p + 1)).2.2) : PR) := by
              show (if pk (pE pk (pF pk k) (p + 1)).2.1 = 41 then _ else _) = _
              rw [if_pos c3]
            rw [hv2] at hK
            refine hK rfl _ (r2.mono (by omega)) V3 u3 ((f1.tr f2).tr f3) e3 ?_
            show p < (pE pk (pF pk k) (p + 1)).2.1 + 1
            omega
      · have hv : pF pk (k + 1) p = pTest pk p := by
          show (if pk p = 33 then _ else if pk p = 40 then _ else _) = _
          rw [if_neg c, if_neg c2]
        rw [hv] at hQ hK
        exact e_test hS h ⟨c, c2⟩ hQ (fun e v r => hK e v (r.mono (by omega)))
theorem m_takesE (hS : FS S) {Q : Int → Mem → Shp → Prop} {p : Int} {V : Mem} (hM : PM pk b n V) (hf : ∀ f, 0 ≤ f → f < 6 → s32 (V 162 f) = fx f) (hp : V 137 32 = p) (p0 : 0 ≤ p) (p1 : p ≤ n) (hQ : (pE pk (pF pk 4) p).1 = false → ∀ V', EFR V V' → V' 137 32 = (pE pk (pF pk 4) p).2.1 → Q 0 V' S) (hT : (pE pk (pF pk 4) p).1 = true → ∀ v, RP fx (pE pk (pF pk 4) p).2.2 v 11 → ∀ V', EFR V V' → V' 137 32 = (pE pk (pF pk 4) p).2.1 → V' 164 0 = b2 v → p < (pE pk (pF pk 4) p).2.1 → (pE pk (pF pk 4) p).2.1 ≤ n → Q 1 V' S) : C_m_takesE (d + 8) 137 V S Q := by
  have hV := hM.1
  have f0 : EFR V (up2 (up2 (up2 V 137 42 0) 137 43 0) 137 44 0) := ((EFR.rf.up (by unfold ECf; omega)).up (by unfold ECf; omega)).up (by unfold ECf; omega)
  have e0 : ES pk b n fx (up2 (up2 (up2 V 137 42 0) 137 43 0) 137 44 0) [] [] p := ⟨hM.fr f0, fun i i0 i1 => by rw [f0 162 i (by unfold ECf; omega)]; exact hf i i0 i1, ⟨by simp (disch := omega) only [up2_ne, up2_eq]; rfl, trivial, fun w hw => absurd hw List.not_mem_nil⟩, ⟨by simp (disch := omega) only [up2_ne, up2_eq]; rfl, trivial⟩, up2_eq rfl rfl, by simp (disch := omega) only [up2_ne]; exact hp, p0, p1, p0, p0⟩
  have hB : BASE ([] : List Int) := Or.inl rfl
  rw [I_m_takesE]
  simp only [hS.k137, b_s32, b_eq0, b_01, l0, l1, true_and, and_true, and_self, true_implies, false_implies, implies_true, forall_const, not_true_eq_false, not_false_eq_true, reduceIte, ite_true, ite_false, reduceCtorEq, forall_eq, Classical.not_not, true_or, or_true, false_or, or_false, and_false, false_and, Int.reduceEq, Int.reduceLT, Int.reduceLE, Int.reduceAdd, Int.reduceSub, Int.reduceMul, Int.reduceNeg]
  refine simE hS (simF_all hS 4) hB rfl e0 (fun q V2 f2 e2 => hQ q V2 (f0.tr f2) e2) (fun q oe' ot' f' V2 u2 r2 f2 e2 lt2 n2 => ?_)
  refine e_end1 hS e2 n2 (fun U hU => sh124 (d + 6) hS hB e2 U hU) (fun V3 f3 e3 => ?_)
  exact hT q _ r2 V3 ((f0.tr f2).tr f3) e3.2.2.2.2.2.1 e3.2.2.2.1.2.1 lt2 e3.2.2.2.2.2.2.2.1
end MT
