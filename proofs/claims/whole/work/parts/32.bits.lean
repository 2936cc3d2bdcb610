/-! bits: codes taken, numbers of trailing zeros -/
theorem pif {p : Prop} [Decidable p] {A B : Prop} {x y : Int} {V : Mem} {S : Shp} {Q : Int → Mem → Shp → Prop} (hA : A ↔ Q x V S) (hB : B ↔ Q y V S) : ((p → A) ∧ (¬ p → B)) ↔ Q (if p then x else y) V S := by
  by_cases h : p
  · rw [if_pos h]; exact ⟨fun q => hA.mp (q.1 h), fun q => ⟨fun _ => hA.mpr q, fun n => (n h).elim⟩⟩
  · rw [if_neg h]; exact ⟨fun q => hB.mp (q.2 h), fun q => ⟨fun n => (h n).elim, fun _ => hB.mpr q⟩⟩
def ntf (y : Int) : Int := (if 0 < s32 y then (if s32 65536 < s32 y then (if s32 256 < s32 (iushrI y 16) then (if s32 16 < s32 (iushrI (iushrI y 16) 8) then (if s32 4 < s32 (iushrI (iushrI (iushrI y 16) 8) 4) then (((((1 + 16) + 8) + 4) + 2) + (iushrI (iushrI (iushrI (iushrI (iushrI y 16) 8) 4) 2) 1)) else ((((1 + 16) + 8) + 4) + (iushrI (iushrI (iushrI (iushrI y 16) 8) 4) 1))) else (if s32 4 < s32 (iushrI (iushrI y 16) 8) then ((((1 + 16) + 8) + 2) + (iushrI (iushrI (iushrI (iushrI y 16) 8) 2) 1)) else (((1 + 16) + 8) + (iushrI (iushrI (iushrI y 16) 8) 1)))) else (if s32 16 < s32 (iushrI y 16) then (if s32 4 < s32 (iushrI (iushrI y 16) 4) then ((((1 + 16) + 4) + 2) + (iushrI (iushrI (iushrI (iushrI y 16) 4) 2) 1)) else (((1 + 16) + 4) + (iushrI (iushrI (iushrI y 16) 4) 1))) else (if s32 4 < s32 (iushrI y 16) then (((1 + 16) + 2) + (iushrI (iushrI (iushrI y 16) 2) 1)) else ((1 + 16) + (iushrI (iushrI y 16) 1))))) else (if s32 256 < s32 y then (if s32 16 < s32 (iushrI y 8) then (if s32 4 < s32 (iushrI (iushrI y 8) 4) then ((((1 + 8) + 4) + 2) + (iushrI (iushrI (iushrI (iushrI y 8) 4) 2) 1)) else (((1 + 8) + 4) + (iushrI (iushrI (iushrI y 8) 4) 1))) else (if s32 4 < s32 (iushrI y 8) then (((1 + 8) + 2) + (iushrI (iushrI (iushrI y 8) 2) 1)) else ((1 + 8) + (iushrI (iushrI y 8) 1)))) else (if s32 16 < s32 y then (if s32 4 < s32 (iushrI y 4) then (((1 + 4) + 2) + (iushrI (iushrI (iushrI y 4) 2) 1)) else ((1 + 4) + (iushrI (iushrI y 4) 1))) else (if s32 4 < s32 y then ((1 + 2) + (iushrI (iushrI y 2) 1)) else (1 + (iushrI y 1)))))) else (iandI y 32))
theorem ntf_y : ∀ c : Fin 33, ntf (Int32.ofNat (2 ^ c.val - 1)).toInt = (c.val : Int) := by decide +kernel
theorem n32 (a : Int) : (i32 a).toBitVec.toNat = (a % 4294967296).toNat := BitVec.toNat_ofInt a
theorem n64 (a : Int) : (i64 a).toBitVec.toNat = (a % 18446744073709551616).toNat := BitVec.toNat_ofInt a
theorem bt_n {T : Int} {c : Int} : bt T c = (T % 18446744073709551616).toNat.testBit c.toNat := by
  show (i64 T).toBitVec.toNat.testBit _ = _
  rw [n64]
theorem ntz_y (a : Int) (c : Nat) (hc : c ≤ 32) (hl : ∀ j, j < c → (a % 4294967296).toNat.testBit j = false) (hb : c < 32 → (a % 4294967296).toNat.testBit c = true) : iandI (ixorI a (-1)) (a - 1) = (Int32.ofNat (2 ^ c - 1)).toInt := by
  unfold iandI ixorI
  rw [i32_toInt, show i32 (a - 1) = i32 a - 1 from Int32.ofInt_sub a 1]
  congr 1
  apply Int32.toBitVec_inj.mp
  rw [Int32.toBitVec_and, Int32.toBitVec_xor, Int32.toBitVec_sub]
  have h1 := n32 a
  generalize (a % 4294967296).toNat = X at hl hb h1
  generalize (i32 a).toBitVec = x at h1
  have hX : X < 4294967296 := by rw [← h1]; exact x.isLt
  have o1 : ((1 : Int32).toBitVec).toNat = 1 := by decide
  apply BitVec.eq_of_getLsbD_eq
  intro i hi
  have e1 : ((i32 (-1)).toBitVec).getLsbD i = true := by
    rw [show (i32 (-1)).toBitVec = BitVec.allOnes 32 from by decide, BitVec.getLsbD_allOnes]
    exact decide_eq_true hi
  rw [BitVec.getLsbD_and, BitVec.getLsbD_xor, e1]
  have er : (Int32.ofNat (2 ^ c - 1)).toBitVec.getLsbD i = decide (i < c) := by
    show (BitVec.ofNat 32 (2 ^ c - 1)).toNat.testBit i = _
    rw [BitVec.toNat_ofNat, Nat.testBit_mod_two_pow, Nat.testBit_two_pow_sub_one, decide_eq_true hi, Bool.true_and]
  rw [er]
  have ex : x.getLsbD i = X.testBit i := by rw [← h1]; rfl
  rw [ex]
  by_cases h32 : c < 32
  · have hb' := hb h32
    have hm : X % 2 ^ (c + 1) = 2 ^ c := by
      apply Nat.eq_of_testBit_eq
      intro j
      rw [Nat.testBit_mod_two_pow, Nat.testBit_two_pow]
      rcases Nat.lt_trichotomy j c with h | h | h
      · rw [hl j h, Bool.and_false]; exact (decide_eq_false (by omega)).symm
      · subst h; rw [hb', decide_eq_true (by omega), decide_eq_true rfl]; rfl
      · rw [decide_eq_false (by omega), Bool.false_and]; exact (decide_eq_false (by omega)).symm
    have hq : X = 2 ^ (c + 1) * (X / 2 ^ (c + 1)) + 2 ^ c := by
      have := Nat.div_add_mod X (2 ^ (c + 1))
      rw [hm] at this
      exact this.symm
    have hp : 0 < 2 ^ c := Nat.two_pow_pos c
    have hp2 : 2 ^ (c + 1) = 2 * 2 ^ c := by rw [Nat.pow_succ]; omega
    have es : (x - (1 : Int32).toBitVec).getLsbD i = (X - 1).testBit i := by
      have hX0 : X ≠ 0 := fun e => by rw [e, Nat.zero_testBit] at hb'; cases hb'
      have hle : (1 : Int32).toBitVec ≤ x := by
        show (1 : Int32).toBitVec.toNat ≤ x.toNat
        rw [o1, h1]; omega
      show (x - (1 : Int32).toBitVec).toNat.testBit i = _
      rw [BitVec.toNat_sub_of_le hle, h1, o1]
    rw [es]
    have hX1 : X - 1 = 2 ^ (c + 1) * (X / 2 ^ (c + 1)) + (2 ^ c - 1) := by omega
    rw [hX1, Nat.testBit_two_pow_mul_add _ (by omega) i]
    have hXt : X.testBit i = if i < c + 1 then (2 ^ c).testBit i else (X / 2 ^ (c + 1)).testBit (i - (c + 1)) := by
      have := Nat.testBit_two_pow_mul_add (X / 2 ^ (c + 1)) (show 2 ^ c < 2 ^ (c + 1) by omega) i
      rw [← hq] at this
      exact this
    rw [hXt]
    by_cases hic : i < c + 1
    · rw [if_pos hic, if_pos hic, Nat.testBit_two_pow, Nat.testBit_two_pow_sub_one]
      by_cases hi2 : i < c
      · rw [decide_eq_true hi2, decide_eq_false (show ¬ c = i by omega)]; rfl
      · rw [decide_eq_false hi2, Bool.and_false]
    · rw [if_neg hic, if_neg hic, decide_eq_false (show ¬ i < c by omega)]
      cases (X / 2 ^ (c + 1)).testBit (i - (c + 1)) <;> rfl
  · have hc32 : c = 32 := by omega
    subst hc32
    have hX0 : X = 0 := by
      apply Nat.eq_of_testBit_eq
      intro j
      rw [Nat.zero_testBit]
      by_cases hj : j < 32
      · exact hl j hj
      · exact Nat.testBit_lt_two_pow (Nat.lt_of_lt_of_le (show X < 2 ^ 32 from hX) (Nat.pow_le_pow_right (n := 2) (by decide) (show 32 ≤ j by omega)))
    subst hX0
    have hx0 : x = 0#32 := BitVec.eq_of_toNat_eq (by rw [h1]; rfl)
    subst hx0
    rw [show (0#32 - (1 : Int32).toBitVec) = BitVec.allOnes 32 from by decide, BitVec.getLsbD_allOnes, Nat.zero_testBit, decide_eq_true hi]
    rfl
section BT
variable {d : Nat} {V : Mem} {S : Shp} {Q : Int → Mem → Shp → Prop}
theorem p_ntz32 (a : Int) (c : Nat) (hc : c ≤ 32) (hl : ∀ j, j < c → (a % 4294967296).toNat.testBit j = false) (hb : c < 32 → (a % 4294967296).toNat.testBit c = true) : C_Integer_numberOfTrailingZeros_I (d + 1) a V S Q ↔ Q (c : Int) V S := by
  have hy := ntz_y a c hc hl hb
  have h2 := ntf_y ⟨c, by omega⟩
  rw [I_Integer_numberOfTrailingZeros_I, ← h2]
  show _ ↔ Q (ntf (Int32.ofNat (2 ^ c - 1)).toInt) V S
  rw [← hy]
  unfold ntf
  exact (pif (pif (pif (pif (pif Iff.rfl Iff.rfl) (pif Iff.rfl Iff.rfl)) (pif (pif Iff.rfl Iff.rfl) (pif Iff.rfl Iff.rfl))) (pif (pif (pif Iff.rfl Iff.rfl) (pif Iff.rfl Iff.rfl)) (pif (pif Iff.rfl Iff.rfl) (pif Iff.rfl Iff.rfl)))) Iff.rfl)
theorem s32_bm (a : Int) : s32 a = Int.bmod a 4294967296 := Int32.toInt_ofInt
theorem s32_0 {a : Int} : s32 a = 0 ↔ (a % 4294967296).toNat = 0 := by
  rw [s32_bm, Int.bmod_def]
  split <;> omega
theorem p_ntz64 (a : Int) (c : Nat) (hc : c ≤ 64) (hl : ∀ j, j < c → (a % 18446744073709551616).toNat.testBit j = false) (hb : c < 64 → (a % 18446744073709551616).toNat.testBit c = true) : C_Long_numberOfTrailingZeros_J (d + 2) a V S Q ↔ Q (c : Int) V S := by
  rw [I_Long_numberOfTrailingZeros_J]
  have e0 : (a % 4294967296).toNat = (a % 18446744073709551616).toNat % 2 ^ 32 := by
    show _ = (a % 18446744073709551616).toNat % 4294967296
    omega
  have hN : (a % 18446744073709551616).toNat < 2 ^ 64 := by
    show _ < 18446744073709551616
    omega
  have eu : (lushrI a 32 % 4294967296).toNat = (a % 18446744073709551616).toNat / 2 ^ 32 := by
    have e1 : lushrI a 32 = ((i64 a).toBitVec >>> 32).toInt := by
      unfold lushrI
      show (((i64 a).toUInt64 >>> ((i32 32).toInt64.toUInt64 &&& Int64.toUInt64 63)).toBitVec).toInt = _
      rw [show ((i32 32).toInt64.toUInt64 &&& Int64.toUInt64 63) = (32 : UInt64) from by decide, UInt64.toBitVec_shiftRight, Int64.toBitVec_toUInt64]
      rfl
    have e2 : ((i64 a).toBitVec >>> 32).toNat = (a % 18446744073709551616).toNat / 2 ^ 32 := by
      rw [BitVec.toNat_ushiftRight, n64, Nat.shiftRight_eq_div_pow]
    rw [e1, BitVec.toInt_eq_toNat_of_lt (by rw [e2]; show 2 * ((a % 18446744073709551616).toNat / 4294967296) < 18446744073709551616; omega), e2]
    show ((((a % 18446744073709551616).toNat / 4294967296 : Nat) : Int) % 4294967296).toNat = (a % 18446744073709551616).toNat / 4294967296
    omega
  generalize (a % 18446744073709551616).toNat = N at *
  by_cases h : c < 32
  · have hne : ¬ s32 a = 0 := by
      rw [s32_0, e0]
      intro e
      have := hb (by omega)
      have h2 : (N % 2 ^ 32).testBit c = true := by rw [Nat.testBit_mod_two_pow, decide_eq_true h, this]; rfl
      rw [e, Nat.zero_testBit] at h2
      cases h2
    have g := p_ntz32 (d := d) (V := V) (S := S) (Q := Q) a c (by omega) (fun j hj => by rw [e0, Nat.testBit_mod_two_pow, hl j hj, Bool.and_false]) (fun h32 => by rw [e0, Nat.testBit_mod_two_pow, hb (by omega), decide_eq_true h]; rfl)
    simp only [hne, not_false_eq_true, true_implies, false_implies, true_and]
    exact g
  · have he : s32 a = 0 := by
      rw [s32_0, e0]
      apply Nat.eq_of_testBit_eq
      intro j
      rw [Nat.testBit_mod_two_pow, Nat.zero_testBit]
      by_cases hj : j < 32
      · rw [hl j (by omega), Bool.and_false]
      · rw [decide_eq_false hj, Bool.false_and]
    have g := p_ntz32 (d := d) (V := V) (S := S) (Q := fun r1 V1 S1 => Q (32 + r1) V1 S1) (lushrI a 32) (c - 32) (by omega) (fun j hj => by rw [eu, Nat.testBit_div_two_pow]; exact hl _ (by omega)) (fun h32 => by rw [eu, Nat.testBit_div_two_pow, show c - 32 + 32 = c from by omega]; exact hb (by omega))
    simp only [he, not_true_eq_false, true_implies, false_implies, and_true]
    rw [g, show (32 : Int) + ((c - 32 : Nat) : Int) = (c : Int) from by omega]
end BT
theorem not_bit (T : Int) (j : Nat) (hj : j < 64) : (lxorI T (-1) % 18446744073709551616).toNat.testBit j = !bt T (j : Int) := by
  rw [← n64]
  unfold lxorI
  rw [i64_toInt, Int64.toBitVec_xor]
  show ((i64 T).toBitVec ^^^ (i64 (-1)).toBitVec).getLsbD j = _
  rw [BitVec.getLsbD_xor, show (i64 (-1)).toBitVec = BitVec.allOnes 64 from by decide, BitVec.getLsbD_allOnes, decide_eq_true hj]
  show ((i64 T).toBitVec.getLsbD j ^^ true) = !((i64 T).toBitVec.getLsbD ((j : Int).toNat))
  rw [Int.toNat_natCast]
  cases (i64 T).toBitVec.getLsbD j <;> rfl
theorem p_low {d : Nat} {a : Int} {V : Mem} {S : Shp} {Q : Int → Mem → Shp → Prop} {L : Int} (hk : S.1 a = 3) (h0 : 0 ≤ L) (h1 : L ≤ 64) (h2 : ∀ c, 0 ≤ c → c < L → bt (V a 0) c = true) (h3 : L < 64 → bt (V a 0) L = false) : C_Codes_low (d + 3) a V S Q ↔ Q L V S := by
  obtain ⟨c, hc⟩ := Int.eq_ofNat_of_zero_le h0
  subst hc
  rw [I_Codes_low, hk]
  have g := p_ntz64 (d := d) (V := V) (S := S) (Q := fun r1 V1 S1 => Q r1 V1 S1) (lxorI (V a 0) (-1)) c (by omega) (fun j hj => by rw [not_bit _ _ (by omega), h2 _ (by omega) (by omega)]; rfl) (fun hc => by rw [not_bit _ _ hc, h3 (by omega)]; rfl)
  simp only [true_and]
  exact g
theorem sh_c : ∀ c : Fin 64, (((i32 (c.val : Int)).toInt64 &&& 63).toBitVec.smod 64).toNat = c.val := by decide +kernel
theorem and_1 (X : BitVec 64) : X &&& 1#64 = if X.getLsbD 0 then 1#64 else 0#64 := by
  apply BitVec.eq_of_getLsbD_eq
  intro i hi
  rw [BitVec.getLsbD_and, BitVec.getLsbD_one]
  by_cases h : i = 0
  · subst h
    cases X.getLsbD 0 <;> rfl
  · cases X.getLsbD 0 <;> simp [h]
theorem shr_bit {T c : Int} (h0 : 0 ≤ c) (h1 : c < 64) : landI (lshrI T c) 1 = if bt T c = true then 1 else 0 := by
  obtain ⟨k, hk⟩ := Int.eq_ofNat_of_zero_le h0
  subst hk
  have hs := sh_c ⟨k, by omega⟩
  have hs : (((i32 (k : Int)).toInt64 &&& 63).toBitVec.smod 64).toNat = k := hs
  unfold landI lshrI
  rw [i64_toInt]
  have e : (i64 T >>> ((i32 (k : Int)).toInt64 &&& 63) &&& i64 1) = if bt T (k : Int) = true then 1 else 0 := by
    apply Int64.toBitVec_inj.mp
    rw [Int64.toBitVec_and, Int64.toBitVec_shiftRight, show (i64 1).toBitVec = 1#64 from rfl, and_1, BitVec.sshiftRight_eq', hs, BitVec.getLsbD_sshiftRight]
    have eb : bt T (k : Int) = (i64 T).toBitVec.getLsbD k := by show (i64 T).toBitVec.getLsbD ((k : Int).toNat) = _; rw [Int.toNat_natCast]
    rw [eb]
    have hk : k < 64 := by omega
    simp only [Nat.add_zero, hk, if_true]
    cases (i64 T).toBitVec.getLsbD k <;> rfl
  rw [e]
  by_cases h : bt T (k : Int) = true
  · rw [if_pos h, if_pos h]; rfl
  · rw [if_neg h, if_neg h]; rfl
theorem lor_bit {T c j : Int} (h0 : 0 ≤ c) (h1 : c < 64) (j0 : 0 ≤ j) (j1 : j < 64) : bt (lorI T (lshlI 1 c)) j = (bt T j || decide (j = c)) := by
  obtain ⟨k, hk⟩ := Int.eq_ofNat_of_zero_le h0
  subst hk
  obtain ⟨i, hi⟩ := Int.eq_ofNat_of_zero_le j0
  subst hi
  have hs := sh_c ⟨k, by omega⟩
  have hs : (((i32 (k : Int)).toInt64 &&& 63).toBitVec.smod 64).toNat = k := hs
  unfold bt lorI lshlI
  rw [i64_toInt, i64_toInt, Int64.toBitVec_or, Int64.toBitVec_shiftLeft, BitVec.getLsbD_or, BitVec.shiftLeft_eq', hs, BitVec.getLsbD_shiftLeft, Int.toNat_natCast, show (i64 1).toBitVec = 1#64 from rfl, BitVec.getLsbD_one]
  congr 1
  by_cases e : i = k
  · subst e
    have : i < 64 := by omega
    simp [this]
  · have e2 : ¬ (i : Int) = (k : Int) := by omega
    by_cases h : i < k
    · simp [h, e2]
    · have : ¬ i - k = 0 := by omega
      simp [this, e2]
