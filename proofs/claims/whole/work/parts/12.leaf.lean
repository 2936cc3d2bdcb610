/-! leaves: what calls of small methods ask -/
theorem s32_ite {c : Prop} [Decidable c] {x y : Int} : s32 (if c then x else y) = if c then s32 x else s32 y := by split <;> rfl
theorem b_s32 {c : Prop} [Decidable c] : s32 (if c then 1 else 0) = if c then 1 else 0 := by split <;> exact s32_id (by omega) (by omega)
theorem b_eq0 {c : Prop} [Decidable c] : ((if c then (1 : Int) else 0) = 0) ↔ ¬ c := by
  by_cases h : c
  · rw [if_pos h]; exact ⟨fun e => by omega, fun e => (e h).elim⟩
  · rw [if_neg h]; exact ⟨fun _ => h, fun _ => rfl⟩
theorem b_01 {c : Prop} [Decidable c] : ((if c then (1 : Int) else 0) = 0 ∨ (if c then (1 : Int) else 0) = 1) ↔ True := by
  by_cases h : c
  · rw [if_pos h]; simp
  · rw [if_neg h]; simp
theorem l0 : s32 0 = 0 := s32_id (by omega) (by omega)
theorem l1 : s32 1 = 1 := s32_id (by omega) (by omega)
section LF
variable {d : Nat} {a b c x y i j k : Int} {V : Mem} {S : Shp} {Q : Int → Mem → Shp → Prop} {U : Mem → Shp → Prop}
theorem p_homeAt (h : SK V S) : C_x_homeAt (d + 1) 100 a V S Q ↔ Q (if 0 ≤ s32 a ∧ s32 a < V 137 1 then 2000 + 10 * s32 a else -1) V S := by
  obtain ⟨hS, hV, ⟨⟨a1, a2, a3⟩, -, -, -⟩, hh, -⟩ := h
  rw [I_x_homeAt]
  simp only [hS.k100, hS.k101, hS.n101, hV.r100_0, a1, true_and]
  rw [s32_id (x := V 137 1) (by omega) (by omega), s32_id (x := 12) (by omega) (by omega)]
  by_cases c1 : s32 a < 0
  · rw [if_neg (by omega)]; simp [c1]
  · by_cases c2 : s32 a < V 137 1
    · rw [if_pos (by omega), (hh (s32 a) (by omega) c2).2.1]
      have c3 : s32 a < 12 := by omega
      have c4 : 0 ≤ s32 a := by omega
      simp [c1, c2, c3, c4]
    · rw [if_neg (by omega)]; simp [c1, c2]
theorem p_lampAt (h : SK V S) : C_x_lampAt (d + 1) 100 a V S Q ↔ Q (if 0 ≤ s32 a ∧ s32 a < V 137 2 then 1000 + 10 * s32 a else -1) V S := by
  obtain ⟨hS, hV, ⟨-, ⟨a1, a2, a3⟩, -, -⟩, -, hh, -⟩ := h
  rw [I_x_lampAt]
  simp only [hS.k100, hS.k102, hS.n102, hV.r100_1, a1, true_and]
  rw [s32_id (x := V 137 2) (by omega) (by omega), s32_id (x := 20) (by omega) (by omega)]
  by_cases c1 : s32 a < 0
  · rw [if_neg (by omega)]; simp [c1]
  · by_cases c2 : s32 a < V 137 2
    · rw [if_pos (by omega), (hh (s32 a) (by omega) c2).2.1]
      have c3 : s32 a < 20 := by omega
      have c4 : 0 ≤ s32 a := by omega
      simp [c1, c2, c3, c4]
    · rw [if_neg (by omega)]; simp [c1, c2]
theorem FV.tape (h : FV V) (t : Int) (h0 : 0 ≤ t) (h1 : t < 6) : V 103 t = 125 + 2 * t ∧ V (125 + 2 * t) 2 = 126 + 2 * t := by
  have : t = 0 ∨ t = 1 ∨ t = 2 ∨ t = 3 ∨ t = 4 ∨ t = 5 := by omega
  rcases this with rfl | rfl | rfl | rfl | rfl | rfl
  · exact ⟨h.r103_0, h.r125_2⟩
  · exact ⟨h.r103_1, h.r127_2⟩
  · exact ⟨h.r103_2, h.r129_2⟩
  · exact ⟨h.r103_3, h.r131_2⟩
  · exact ⟨h.r103_4, h.r133_2⟩
  · exact ⟨h.r103_5, h.r135_2⟩
theorem FS.tape (h : FS S) (t : Int) (h0 : 0 ≤ t) (h1 : t < 6) : S.1 (125 + 2 * t) = 7 ∧ S.1 (126 + 2 * t) = 103 ∧ S.2.1 (126 + 2 * t) = 60 := by
  have : t = 0 ∨ t = 1 ∨ t = 2 ∨ t = 3 ∨ t = 4 ∨ t = 5 := by omega
  rcases this with rfl | rfl | rfl | rfl | rfl | rfl
  · exact ⟨h.k125, h.k126, h.n126⟩
  · exact ⟨h.k127, h.k128, h.n128⟩
  · exact ⟨h.k129, h.k130, h.n130⟩
  · exact ⟨h.k131, h.k132, h.n132⟩
  · exact ⟨h.k133, h.k134, h.n134⟩
  · exact ⟨h.k135, h.k136, h.n136⟩
theorem p_tapeAt (h : SK V S) : C_x_tapeAt (d + 1) 100 a V S Q ↔ Q (if 0 ≤ s32 a ∧ s32 a < 6 then 125 + 2 * s32 a else -1) V S := by
  obtain ⟨hS, hV, -⟩ := h
  rw [I_x_tapeAt]
  simp only [hS.k100, hS.k103, hS.n103, hV.r100_2, true_and]
  rw [s32_id (x := 6) (by omega) (by omega)]
  by_cases c1 : s32 a < 0
  · rw [if_neg (by omega)]; simp [c1]
  · by_cases c2 : s32 a < 6
    · rw [if_pos (by omega), (hV.tape (s32 a) (by omega) c2).1]
      have c4 : 0 ≤ s32 a := by omega
      simp [c1, c2, c4]
    · rw [if_neg (by omega)]; simp [c1, c2]
theorem p_isDay : C_x_isDay (d + 2) a V S Q ↔ Q (if 0 ≤ s32 a ∧ s32 a ≤ 599 then 1 else 0) V S := by
  rw [I_x_isDay, p_isWithin, b_s32, b_01, l0, s32_id (x := 599) (by omega) (by omega), true_and]
theorem p_isSum : C_x_isSum (d + 2) a V S Q ↔ Q (if 1 ≤ s32 a ∧ s32 a ≤ 999 then 1 else 0) V S := by
  rw [I_x_isSum, p_isWithin, b_s32, b_01, l1, s32_id (x := 999) (by omega) (by omega), true_and]
theorem p_isKind : C_Acts_isKind (d + 1) a V S Q ↔ Q (if 0 ≤ s32 a ∧ s32 a ≤ 6 then 1 else 0) V S := by
  rw [I_Acts_isKind, l0, l1, s32_id (x := 6) (by omega) (by omega)]
  by_cases c1 : s32 a < 0
  · rw [if_neg (by omega)]; simp [c1]
  · by_cases c2 : 6 < s32 a
    · rw [if_neg (by omega)]; simp [c1, c2]
    · rw [if_pos (by omega)]; simp [c1, c2]
theorem p_min : C_Math_min_II (d + 1) a b V S Q ↔ Q (if s32 b < s32 a then b else a) V S := by
  rw [I_Math_min_II]
  by_cases c1 : s32 b < s32 a
  · rw [if_pos c1]; simp [c1]
  · rw [if_neg c1]; simp [c1]
theorem p_max : C_Math_max_II (d + 1) a b V S Q ↔ Q (if s32 a < s32 b then b else a) V S := by
  rw [I_Math_max_II]
  by_cases c1 : s32 a < s32 b
  · rw [if_pos c1]; simp [c1]
  · rw [if_neg c1]; simp [c1]
theorem p_abs : C_Math_abs_I (d + 1) a V S Q ↔ Q (if s32 a < 0 then -a else a) V S := by
  rw [I_Math_abs_I]
  by_cases c1 : s32 a < 0
  · rw [if_pos c1]; simp [c1]
  · rw [if_neg c1]; simp [c1]
theorem p_mabs (h : SK V S) : C_m_abs (d + 1) 137 a V S Q ↔ Q (if s32 a < 0 then -a else a) V S := by
  rw [I_m_abs, h.1.k137]
  by_cases c1 : s32 a < 0
  · rw [if_pos c1]; simp [c1]
  · rw [if_neg c1]; simp [c1]
theorem q_in (h : SK V S) : C_m_in (d + 1) 137 a b c V S Q ↔ Q (if s32 b ≤ s32 a ∧ s32 a ≤ s32 c then 1 else 0) V S := p_in d 137 a b c V S Q h.1.k137
theorem p_isLamp (h : SK V S) : C_m_isLamp (d + 2) 137 a V S Q ↔ Q (if 0 ≤ s32 a ∧ s32 a < V 137 2 then 1 else 0) V S := by
  have h0 := h
  obtain ⟨hS, hV, ⟨-, ⟨a1, a2, a3⟩, -, -⟩, -⟩ := h
  rw [I_m_isLamp, q_in h0, b_s32, b_01, l0, s32_id (x := V 137 2 - 1) (by omega) (by omega), hS.k137]
  have e : (0 ≤ s32 a ∧ s32 a ≤ V 137 2 - 1) ↔ (0 ≤ s32 a ∧ s32 a < V 137 2) := by omega
  simp [e]
theorem p_isHome (h : SK V S) : C_m_isHome (d + 2) 137 a V S Q ↔ Q (if 0 ≤ s32 a ∧ s32 a < V 137 1 then 1 else 0) V S := by
  have h0 := h
  obtain ⟨hS, hV, ⟨⟨a1, a2, a3⟩, -, -, -⟩, -⟩ := h
  rw [I_m_isHome, q_in h0, b_s32, b_01, l0, s32_id (x := V 137 1 - 1) (by omega) (by omega), hS.k137]
  have e : (0 ≤ s32 a ∧ s32 a ≤ V 137 1 - 1) ↔ (0 ≤ s32 a ∧ s32 a < V 137 1) := by omega
  simp [e]
theorem p_isTape (h : SK V S) : C_m_isTape (d + 2) 137 a V S Q ↔ Q (if 0 ≤ s32 a ∧ s32 a < 6 then 1 else 0) V S := by
  rw [I_m_isTape, q_in h, b_s32, b_01, l0, s32_id (x := 5) (by omega) (by omega), h.1.k137]
  have e : (0 ≤ s32 a ∧ s32 a ≤ 5) ↔ (0 ≤ s32 a ∧ s32 a < 6) := by omega
  simp [e]
theorem p_misDay (h : SK V S) : C_m_isDay (d + 2) 137 a V S Q ↔ Q (if 0 ≤ s32 a ∧ s32 a ≤ 599 then 1 else 0) V S := by
  rw [I_m_isDay, q_in h, b_s32, b_01, l0, s32_id (x := 599) (by omega) (by omega), h.1.k137]
  simp
/-- KINDS: whether one is another one or under that -/
def uk (x k : Int) : Bool := k == 0 || x == k || (k == 1 && x == 6) || (k == 2 && x == 3)
theorem p_misUnder (h : SK V S) (hx : s32 x = x) (hk : s32 k = k) : C_m_isUnder (d + 1) 137 x k V S Q ↔ Q (if uk x k then 1 else 0) V S := by
  rw [I_m_isUnder, h.1.k137, hx, hk, l0, l1, s32_id (x := 6) (by omega) (by omega), s32_id (x := 2) (by omega) (by omega), s32_id (x := 3) (by omega) (by omega)]
  unfold uk
  by_cases c0 : k = 0
  · simp [c0]
  · by_cases c1 : x = k
    · simp [c0, c1]
    · by_cases c2 : k = 1
      · by_cases c3 : x = 6
        · simp [c2, c3]
        · subst c2; simp [c1, c3]
      · by_cases c3 : k = 2
        · by_cases c4 : x = 3
          · simp [c3, c4]
          · subst c3; simp [c1, c4]
        · simp [c0, c1, c2, c3]
theorem FV.above (h : FV V) (k : Int) (h0 : 0 ≤ k) (h1 : k < 7) : V (-2) k = if k = 0 then -1 else if k = 3 then 2 else if k = 6 then 1 else 0 := by
  have : k = 0 ∨ k = 1 ∨ k = 2 ∨ k = 3 ∨ k = 4 ∨ k = 5 ∨ k = 6 := by omega
  rcases this with rfl | rfl | rfl | rfl | rfl | rfl | rfl
  · exact h.rm2_0
  · exact h.rm2_1
  · exact h.rm2_2
  · exact h.rm2_3
  · exact h.rm2_4
  · exact h.rm2_5
  · exact h.rm2_6
end LF
