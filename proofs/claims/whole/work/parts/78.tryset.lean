/-! which lamps a trial tells of: the range -/
theorem shl_c : ∀ L : Fin 21, ishlI 1 (L.val : Int) = (2 ^ L.val : Nat) := by decide +kernel
theorem ush_c : ∀ L : Fin 21, (((i32 (L.val : Int)).toUInt32 &&& Int32.toUInt32 31).toBitVec % 32).toNat = L.val := by decide +kernel
theorem ush0 {a L : Int} (ha : s32 a = a) (h0 : 0 ≤ L) (h1 : L ≤ 20) : s32 (iushrI a L) = 0 ↔ (0 ≤ a ∧ a ≤ ishlI 1 L - 1) := by
  obtain ⟨k, hk⟩ := Int.eq_ofNat_of_zero_le h0
  subst hk
  have e1 := shl_c ⟨k, by omega⟩
  have e1 : ishlI 1 (k : Int) = ((2 ^ k : Nat) : Int) := e1
  have e2 := ush_c ⟨k, by omega⟩
  have e2 : (((i32 (k : Int)).toUInt32 &&& Int32.toUInt32 31).toBitVec % 32).toNat = k := e2
  have hp : 2 ^ k ≤ 2 ^ 20 := Nat.pow_le_pow_right (n := 2) (by decide) (by omega)
  have hp : 2 ^ k ≤ 1048576 := hp
  have hp0 : 0 < 2 ^ k := Nat.two_pow_pos k
  have e3 : (iushrI a (k : Int) % 4294967296).toNat = (a % 4294967296).toNat / 2 ^ k := by
    rw [← n32, ← n32]
    unfold iushrI
    rw [i32_toInt]
    show (((i32 a).toUInt32 >>> ((i32 (k : Int)).toUInt32 &&& Int32.toUInt32 31)).toBitVec).toNat = _
    rw [UInt32.toBitVec_shiftRight, BitVec.ushiftRight_eq', BitVec.toNat_ushiftRight, e2, Nat.shiftRight_eq_div_pow]
    rfl
  have hr := s32_rng a
  rw [s32_0, e3, e1, Nat.div_eq_zero_iff]
  generalize 2 ^ k = P at *
  omega
