/-! pure leaves -/
theorem s32_id {x : Int} (h0 : -2147483648 ≤ x) (h1 : x < 2147483648) : s32 x = x := by
  show (Int32.ofInt x).toInt = x
  rw [Int32.toInt_ofInt]
  have h32 : Int32.size = 4294967296 := rfl
  exact Int.bmod_eq_of_le (by omega) (by omega)
theorem s32_rng (x : Int) : -2147483648 ≤ s32 x ∧ s32 x < 2147483648 := by
  have h1 := Int32.le_toInt (Int32.ofInt x)
  have h2 := Int32.toInt_lt (Int32.ofInt x)
  constructor
  · show -2147483648 ≤ (Int32.ofInt x).toInt
    have : (-2 ^ 31 : Int) = -2147483648 := by decide
    omega
  · show (Int32.ofInt x).toInt < 2147483648
    have : (2 ^ 31 : Int) = 2147483648 := by decide
    omega
theorem s32_s32 (x : Int) : s32 (s32 x) = s32 x := s32_id (s32_rng x).1 (s32_rng x).2
theorem p_isWithin (d : Nat) (a b c : Int) (V : Mem) (S : Shp) (Q : Int → Mem → Shp → Prop) : C_x_isWithin (d + 1) a b c V S Q ↔ Q (if s32 b ≤ s32 a ∧ s32 a ≤ s32 c then 1 else 0) V S := by
  rw [I_x_isWithin]
  by_cases h1 : s32 a < s32 b
  · have h2 : ¬ (s32 b ≤ s32 a ∧ s32 a ≤ s32 c) := by omega
    simp [h1, h2, s32_id]
  · by_cases h3 : s32 c < s32 a
    · have h2 : ¬ (s32 b ≤ s32 a ∧ s32 a ≤ s32 c) := by omega
      simp [h1, h2, h3, s32_id]
    · have h2 : (s32 b ≤ s32 a ∧ s32 a ≤ s32 c) := by omega
      simp [h1, h2, h3, s32_id]
theorem p_in (d : Nat) (a0 a b c : Int) (V : Mem) (S : Shp) (Q : Int → Mem → Shp → Prop) (hk : S.1 a0 = 12) : C_m_in (d + 1) a0 a b c V S Q ↔ Q (if s32 b ≤ s32 a ∧ s32 a ≤ s32 c then 1 else 0) V S := by
  rw [I_m_in]
  by_cases h1 : s32 a < s32 b
  · have h2 : ¬ (s32 b ≤ s32 a ∧ s32 a ≤ s32 c) := by omega
    simp [h1, h2, s32_id, hk]
  · by_cases h3 : s32 c < s32 a
    · have h2 : ¬ (s32 b ≤ s32 a ∧ s32 a ≤ s32 c) := by omega
      simp [h1, h2, h3, s32_id, hk]
    · have h2 : (s32 b ≤ s32 a ∧ s32 a ≤ s32 c) := by omega
      simp [h1, h2, h3, s32_id, hk]
theorem p_valueAt (d : Nat) (a i : Int) (V : Mem) (S : Shp) (Q : Int → Mem → Shp → Prop) (hk : S.1 a = 100 ∨ S.1 a = 104) (hN : 0 ≤ S.2.1 a ∧ S.2.1 a < 2147483648) : C_x_valueAt (d + 1) a i V S Q ↔ Q (if 0 ≤ s32 i ∧ s32 i < S.2.1 a then V a (s32 i) else 0) V S := by
  rw [I_x_valueAt]
  have e : s32 (S.2.1 a) = S.2.1 a := s32_id (by omega) (by omega)
  have hk2 : 100 ≤ S.1 a ∧ S.1 a < 123 := by omega
  by_cases h1 : s32 i < 0
  · have h2 : ¬ (0 ≤ s32 i ∧ s32 i < S.2.1 a) := by omega
    simp [h1, h2]
  · by_cases h3 : s32 i < S.2.1 a
    · have h2 : (0 ≤ s32 i ∧ s32 i < S.2.1 a) := by omega
      have h4 : 0 ≤ s32 i := by omega
      simp [h1, h3, h4, e, hk2, hk]
    · have h2 : ¬ (0 ≤ s32 i ∧ s32 i < S.2.1 a) := by omega
      simp [h1, h2, h3, e, hk2]
