/-! where a text stops being one lies within it -/
section PB
variable {pk : Int → Int} {n : Int}
def INB (n p q : Int) : Prop := p ≤ q ∧ q ≤ n
theorem nmP_b (h : ∀ p, n ≤ p → pk p < 0) {p : Int} (hp : p ≤ n) : INB n p (nmP pk p).2.1 := by
  have g : ∀ q, isd (pk q) = true → q < n := fun q hq => by
    have := isd_i.mp hq
    by_cases c : q < n
    · exact c
    · have := h q (by omega); omega
  unfold nmP INB
  cases h0 : isd (pk p)
  · exact ⟨Int.le_refl _, hp⟩
  · have g0 := g p h0
    cases h1 : isd (pk (p + 1))
    · exact ⟨by show p ≤ p + 1; omega, by show p + 1 ≤ n; omega⟩
    · have g1 := g _ h1
      cases h2 : isd (pk (p + 2))
      · exact ⟨by show p ≤ p + 2; omega, by show p + 2 ≤ n; omega⟩
      · have g2 := g _ h2
        exact ⟨by show p ≤ p + 3; omega, by show p + 3 ≤ n; omega⟩
theorem lt_n (h : ∀ p, n ≤ p → pk p < 0) {p : Int} (hc : 0 ≤ pk p) : p < n := by
  by_cases c : p < n
  · exact c
  · have := h p (by omega); omega
theorem pTest_b (h : ∀ p, n ≤ p → pk p < 0) {p : Int} (hp : p ≤ n) : INB n p (pTest pk p).2.1 := by
  by_cases c1 : ltr (pk p) < 0
  · have hv : pTest pk p = (false, p, []) := by unfold pTest; rw [if_pos c1]
    rw [hv]
    exact ⟨Int.le_refl _, hp⟩
  · have g1 : p < n := lt_n h (by rcases ltr_r (x := pk p) with q | q <;> omega)
    by_cases c2 : sgn (pk (p + 1)) < 0
    · have hv : pTest pk p = (false, p + 1, []) := by unfold pTest; rw [if_neg c1, if_pos c2]
      rw [hv]
      exact ⟨by show p ≤ p + 1; omega, by show p + 1 ≤ n; omega⟩
    · have g2 : p + 1 < n := lt_n h (by
        by_cases c : 0 ≤ pk (p + 1)
        · exact c
        · have e : sgn (pk (p + 1)) = -1 := by unfold sgn; rw [if_neg (by omega), if_neg (by omega), if_neg (by omega)]
          omega)
      have b := nmP_b h (p := p + 2) (by omega)
      unfold INB at b
      have hv : (pTest pk p).2.1 = (nmP pk (p + 2)).2.1 := by
        unfold pTest
        rw [if_neg c1, if_neg c2]
        show (bif (nmP pk (p + 2)).1 then ((true, (nmP pk (p + 2)).2.1, [(ltr (pk p) * 3 + sgn (pk (p + 1))) * 1000 + (nmP pk (p + 2)).2.2]) : PR) else (false, (nmP pk (p + 2)).2.1, [])).2.1 = _
        cases (nmP pk (p + 2)).1 <;> rfl
      unfold INB
      rw [hv]
      omega
def GP (n : Int) (f : Int → PR) : Prop := ∀ p, p ≤ n → INB n p (f p).2.1
theorem pLoop_b (h : ∀ p, n ≤ p → pk p < 0) {sep st : Int} {f : Int → PR} (hs : 0 ≤ sep) (hf : GP n f) : ∀ (N : Nat) (p : Int) (L : List Int), p ≤ n → INB n p (pLoop pk sep st f N p L).2.1
  | 0, p, L, hp => ⟨Int.le_refl _, hp⟩
  | N + 1, p, L, hp => by
    by_cases e : pk p = sep
    · have g := lt_n h (p := p) (by omega)
      have b := hf (p + 1) (by omega)
      unfold INB at b
      have hl : pLoop pk sep st f (N + 1) p L = bif (f (p + 1)).1 then pLoop pk sep st f N (f (p + 1)).2.1 (L ++ (f (p + 1)).2.2 ++ [st]) else (false, (f (p + 1)).2.1, []) := by
        show (if pk p = sep then _ else _) = _
        rw [if_pos e]
      rw [hl]
      cases (f (p + 1)).1
      · exact ⟨by show p ≤ (f (p + 1)).2.1; omega, b.2⟩
      · have b2 := pLoop_b (st := st) h hs hf N (f (p + 1)).2.1 (L ++ (f (p + 1)).2.2 ++ [st]) b.2
        unfold INB at b2
        exact ⟨by show p ≤ (pLoop pk sep st f N (f (p + 1)).2.1 (L ++ (f (p + 1)).2.2 ++ [st])).2.1; omega, b2.2⟩
    · have hl : pLoop pk sep st f (N + 1) p L = (true, p, L) := by
        show (if pk p = sep then _ else _) = _
        rw [if_neg e]
      rw [hl]
      exact ⟨Int.le_refl _, hp⟩
theorem pT_b (h : ∀ p, n ≤ p → pk p < 0) {f : Int → PR} (hf : GP n f) : GP n (pT pk f) := by
  intro p hp
  have b := hf p hp
  unfold INB at b
  have hl : pT pk f p = bif (f p).1 then pLoop pk 38 (-2) f 100 (f p).2.1 (f p).2.2 else (false, (f p).2.1, []) := rfl
  rw [hl]
  cases (f p).1
  · exact b
  · have b2 := pLoop_b h (sep := 38) (st := -2) (by omega) hf 100 (f p).2.1 (f p).2.2 b.2
    unfold INB at b2
    exact ⟨by show p ≤ (pLoop pk 38 (-2) f 100 (f p).2.1 (f p).2.2).2.1; omega, b2.2⟩
theorem pE_b (h : ∀ p, n ≤ p → pk p < 0) {f : Int → PR} (hf : GP n f) : GP n (pE pk f) := by
  intro p hp
  have b := pT_b h hf p hp
  unfold INB at b
  have hl : pE pk f p = bif (pT pk f p).1 then pLoop pk 124 (-3) (pT pk f) 100 (pT pk f p).2.1 (pT pk f p).2.2 else (false, (pT pk f p).2.1, []) := rfl
  rw [hl]
  cases (pT pk f p).1
  · exact b
  · have b2 := pLoop_b h (sep := 124) (st := -3) (by omega) (pT_b h hf) 100 (pT pk f p).2.1 (pT pk f p).2.2 b.2
    unfold INB at b2
    exact ⟨by show p ≤ (pLoop pk 124 (-3) (pT pk f) 100 (pT pk f p).2.1 (pT pk f p).2.2).2.1; omega, b2.2⟩
theorem pF_b (h : ∀ p, n ≤ p → pk p < 0) : ∀ k : Nat, GP n (pF pk k)
  | 0, p, hp => pTest_b h hp
  | k + 1, p, hp => by
    by_cases c : pk p = 33
    · have g := lt_n h (p := p) (by omega)
      have b := pF_b h k (p + 1) (by omega)
      unfold INB at b
      have hv : (pF pk (k + 1) p).2.1 = (pF pk k (p + 1)).2.1 := by
        show (if pk p = 33 then _ else _ : PR).2.1 = _
        rw [if_pos c]
        cases (pF pk k (p + 1)).1 <;> rfl
      unfold INB
      rw [hv]
      omega
    · by_cases c2 : pk p = 40
      · have g := lt_n h (p := p) (by omega)
        have b := pE_b h (pF_b h k) (p + 1) (by omega)
        unfold INB at b
        have hv : pF pk (k + 1) p = (bif (pE pk (pF pk k) (p + 1)).1 then (if pk (pE pk (pF pk k) (p + 1)).2.1 = 41 then (true, (pE pk (pF pk k) (p + 1)).2.1 + 1, (pE pk (pF pk k) (p + 1)).2.2) else (false, (pE pk (pF pk k) (p + 1)).2.1, [])) else (false, (pE pk (pF pk k) (p + 1)).2.1, [])) := by
          show (if pk p = 33 then _ else if pk p = 40 then _ else _) = _
          rw [if_neg c, if_pos c2]
        rw [hv]
        cases (pE pk (pF pk k) (p + 1)).1
        · exact ⟨by show p ≤ (pE pk (pF pk k) (p + 1)).2.1; omega, b.2⟩
        · by_cases c4 : pk (pE pk (pF pk k) (p + 1)).2.1 = 41
          · have g2 := lt_n h (p := (pE pk (pF pk k) (p + 1)).2.1) (by omega)
            rw [if_pos c4]
            exact ⟨by show p ≤ (pE pk (pF pk k) (p + 1)).2.1 + 1; omega, by show (pE pk (pF pk k) (p + 1)).2.1 + 1 ≤ n; omega⟩
          · rw [if_neg c4]
            exact ⟨by show p ≤ (pE pk (pF pk k) (p + 1)).2.1; omega, b.2⟩
      · have hv : pF pk (k + 1) p = pTest pk p := by
          show (if pk p = 33 then _ else if pk p = 40 then _ else _) = _
          rw [if_neg c, if_neg c2]
        rw [hv]
        exact pTest_b h hp
theorem pW_b (h : ∀ p, n ≤ p → pk p < 0) : ∀ (l : List Int), (∀ c ∈ l, 0 ≤ c) → ∀ p : Int, p ≤ n → INB n p (pW pk l p).2
  | [], _, p, hp => ⟨Int.le_refl _, hp⟩
  | c :: r, hl, p, hp => by
    by_cases e : pk p = c
    · have hc := hl c List.mem_cons_self
      have g := lt_n h (p := p) (by omega)
      have b := pW_b h r (fun x hx => hl x (List.mem_cons_of_mem _ hx)) (p + 1) (by omega)
      unfold INB at b
      have hv : pW pk (c :: r) p = pW pk r (p + 1) := if_pos e
      rw [hv]
      exact ⟨by omega, b.2⟩
    · have hv : pW pk (c :: r) p = (false, p) := if_neg e
      rw [hv]
      exact ⟨Int.le_refl _, hp⟩
theorem pC_b (h : ∀ p, n ≤ p → pk p < 0) {p : Int} (hp : p ≤ n) : INB n p (pC pk p).2.1 := by
  have key : ∀ (w : List Int) (wd : Int), (∀ c ∈ w, 0 ≤ c) → INB n p (pTests pk w wd p).2.1 := by
    intro w wd hw
    have b1 := pW_b h w hw p hp
    unfold INB at b1
    have b2 := pE_b h (pF_b h 4) (pW pk w p).2 b1.2
    unfold INB at b2
    unfold pTests
    cases (pW pk w p).1
    · exact b1
    · cases (pE pk (pF pk 4) (pW pk w p).2).1
      · exact ⟨by show p ≤ (pE pk (pF pk 4) (pW pk w p).2).2.1; omega, b2.2⟩
      · exact ⟨by show p ≤ (pE pk (pF pk 4) (pW pk w p).2).2.1; omega, b2.2⟩
  unfold pC
  by_cases c1 : pk p = 115
  · rw [if_pos c1]
    have b1 := pW_b h [115, 117, 109, 32] (by decide) p hp
    unfold INB at b1
    have b2 := nmP_b h b1.2
    unfold INB at b2
    unfold pSum
    cases (pW pk [115, 117, 109, 32] p).1
    · exact b1
    · cases (nmP pk (pW pk [115, 117, 109, 32] p).2).1
      · exact ⟨by show p ≤ (nmP pk (pW pk [115, 117, 109, 32] p).2).2.1; omega, b2.2⟩
      · by_cases e : pk (nmP pk (pW pk [115, 117, 109, 32] p).2).2.1 = 32
        · have g := lt_n h (p := (nmP pk (pW pk [115, 117, 109, 32] p).2).2.1) (by omega)
          have b3 := nmP_b h (p := (nmP pk (pW pk [115, 117, 109, 32] p).2).2.1 + 1) (by omega)
          unfold INB at b3
          rw [if_pos e]
          cases (nmP pk ((nmP pk (pW pk [115, 117, 109, 32] p).2).2.1 + 1)).1
          · exact ⟨by show p ≤ (nmP pk ((nmP pk (pW pk [115, 117, 109, 32] p).2).2.1 + 1)).2.1; omega, b3.2⟩
          · exact ⟨by show p ≤ (nmP pk ((nmP pk (pW pk [115, 117, 109, 32] p).2).2.1 + 1)).2.1; omega, b3.2⟩
        · rw [if_neg e]
          exact ⟨by show p ≤ (nmP pk (pW pk [115, 117, 109, 32] p).2).2.1; omega, b2.2⟩
  · rw [if_neg c1]
    by_cases c2 : pk p = 103
    · rw [if_pos c2]
      have b1 := pW_b h [103, 114, 97, 99, 101, 32] (by decide) p hp
      unfold INB at b1
      have b2 := nmP_b h b1.2
      unfold INB at b2
      unfold pGrace
      cases (pW pk [103, 114, 97, 99, 101, 32] p).1
      · exact b1
      · cases (nmP pk (pW pk [103, 114, 97, 99, 101, 32] p).2).1
        · exact ⟨by show p ≤ (nmP pk (pW pk [103, 114, 97, 99, 101, 32] p).2).2.1; omega, b2.2⟩
        · exact ⟨by show p ≤ (nmP pk (pW pk [103, 114, 97, 99, 101, 32] p).2).2.1; omega, b2.2⟩
    · rw [if_neg c2]
      by_cases c3 : pk p = 114
      · rw [if_pos c3]
        have b1 := pW_b h [114, 117, 110, 32] (by decide) p hp
        unfold INB at b1
        unfold pRun
        cases (pW pk [114, 117, 110, 32] p).1
        · exact b1
        · by_cases e : pk (pW pk [114, 117, 110, 32] p).2 = 121
          · have g := lt_n h (p := (pW pk [114, 117, 110, 32] p).2) (by omega)
            rw [if_pos e]
            exact ⟨by show p ≤ (pW pk [114, 117, 110, 32] p).2 + 1; omega, by show (pW pk [114, 117, 110, 32] p).2 + 1 ≤ n; omega⟩
          · rw [if_neg e]
            by_cases e2 : pk (pW pk [114, 117, 110, 32] p).2 = 110
            · have g := lt_n h (p := (pW pk [114, 117, 110, 32] p).2) (by omega)
              rw [if_pos e2]
              exact ⟨by show p ≤ (pW pk [114, 117, 110, 32] p).2 + 1; omega, by show (pW pk [114, 117, 110, 32] p).2 + 1 ≤ n; omega⟩
            · rw [if_neg e2]
              exact b1
      · rw [if_neg c3]
        by_cases c4 : pk p = 102
        · rw [if_pos c4]
          exact key _ _ (by decide)
        · rw [if_neg c4]
          by_cases c5 : pk p = 111
          · rw [if_pos c5]
            exact key _ _ (by decide)
          · rw [if_neg c5]
            exact ⟨Int.le_refl _, hp⟩
theorem pX_b (h : ∀ p, n ≤ p → pk p < 0) : ∀ (k : Nat) (p : Int) (cs : List CL), p ≤ n → INB n p (pX pk n k p cs).2.1
  | 0, p, cs, hp => ⟨Int.le_refl _, hp⟩
  | k + 1, p, cs, hp => by
    have b := pC_b h hp
    unfold INB at b
    unfold pX
    cases (pC pk p).1
    · exact b
    · by_cases c2 : (pC pk p).2.1 = n
      · rw [if_pos c2]
        exact ⟨hp, Int.le_refl _⟩
      · rw [if_neg c2]
        by_cases c3 : k = 0
        · rw [if_pos c3]
          exact b
        · rw [if_neg c3]
          by_cases c4 : pk (pC pk p).2.1 = 59
          · have g := lt_n h (p := (pC pk p).2.1) (by omega)
            have b2 := pX_b h k ((pC pk p).2.1 + 1) (cs ++ [(pC pk p).2.2]) (by omega)
            unfold INB at b2
            rw [if_pos c4]
            exact ⟨by show p ≤ (pX pk n k ((pC pk p).2.1 + 1) (cs ++ [(pC pk p).2.2])).2.1; omega, b2.2⟩
          · rw [if_neg c4]
            exact b
end PB
