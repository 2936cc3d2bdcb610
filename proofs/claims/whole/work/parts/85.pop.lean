/-! counting bits -/
def pcn : Nat → Nat → Nat
  | 0, _ => 0
  | k + 1, n => n % 2 + pcn k (n / 2)
def sw1 (x : Nat) : Nat := x - ((x >>> 1) &&& 1431655765)
def sw2 (x : Nat) : Nat := (x &&& 858993459) + ((x >>> 2) &&& 858993459)
def sw3 (x : Nat) : Nat := (x + (x >>> 4)) &&& 252645135
def sw4 (x : Nat) : Nat := x + (x >>> 8)
def sw5 (x : Nat) : Nat := x + (x >>> 16)
def swOk (n : Nat) : Bool := Nat.beq (sw5 (sw4 (sw3 (sw2 (sw1 n)))) &&& 63) (pcn 16 n) && (Nat.beq n 0 || Nat.beq (pcn 16 (n &&& (n - 1)) + 1) (pcn 16 n))
def allB (f : Nat → Bool) : Nat → Bool
  | 0 => true
  | k + 1 => f k && allB f k
theorem allB_s (f : Nat → Bool) : ∀ k : Nat, allB f k = true → ∀ j, j < k → f j = true
  | 0, _, j, hj => absurd hj (Nat.not_lt_zero j)
  | k + 1, h, j, hj => by
    have h : (f k && allB f k) = true := h
    rw [Bool.and_eq_true] at h
    by_cases e : j = k
    · rw [e]; exact h.1
    · exact allB_s f k h.2 j (by omega)
theorem sw_0 : allB (fun a => allB (fun b => swOk (0 + 256 * a + b)) 256) 16 = true := by decide +kernel
theorem sw_1 : allB (fun a => allB (fun b => swOk (4096 + 256 * a + b)) 256) 16 = true := by decide +kernel
theorem sw_2 : allB (fun a => allB (fun b => swOk (8192 + 256 * a + b)) 256) 16 = true := by decide +kernel
theorem sw_3 : allB (fun a => allB (fun b => swOk (12288 + 256 * a + b)) 256) 16 = true := by decide +kernel
theorem sw_4 : allB (fun a => allB (fun b => swOk (16384 + 256 * a + b)) 256) 16 = true := by decide +kernel
theorem sw_5 : allB (fun a => allB (fun b => swOk (20480 + 256 * a + b)) 256) 16 = true := by decide +kernel
theorem sw_6 : allB (fun a => allB (fun b => swOk (24576 + 256 * a + b)) 256) 16 = true := by decide +kernel
theorem sw_7 : allB (fun a => allB (fun b => swOk (28672 + 256 * a + b)) 256) 16 = true := by decide +kernel
theorem sw_8 : allB (fun a => allB (fun b => swOk (32768 + 256 * a + b)) 256) 16 = true := by decide +kernel
theorem sw_9 : allB (fun a => allB (fun b => swOk (36864 + 256 * a + b)) 256) 16 = true := by decide +kernel
theorem sw_10 : allB (fun a => allB (fun b => swOk (40960 + 256 * a + b)) 256) 16 = true := by decide +kernel
theorem sw_11 : allB (fun a => allB (fun b => swOk (45056 + 256 * a + b)) 256) 16 = true := by decide +kernel
theorem sw_12 : allB (fun a => allB (fun b => swOk (49152 + 256 * a + b)) 256) 16 = true := by decide +kernel
theorem sw_13 : allB (fun a => allB (fun b => swOk (53248 + 256 * a + b)) 256) 16 = true := by decide +kernel
theorem sw_14 : allB (fun a => allB (fun b => swOk (57344 + 256 * a + b)) 256) 16 = true := by decide +kernel
theorem sw_15 : allB (fun a => allB (fun b => swOk (61440 + 256 * a + b)) 256) 16 = true := by decide +kernel
theorem sw_all {n : Nat} (hn : n < 65536) : swOk n = true := by
  have g : ∀ k : Nat, allB (fun a => allB (fun b => swOk (4096 * k + 256 * a + b)) 256) 16 = true → 4096 * k ≤ n → n < 4096 * k + 4096 → swOk n = true := fun k hk h0 h1 => by
    have q := allB_s _ _ (allB_s _ _ hk ((n - 4096 * k) / 256) (by omega)) (n % 256) (by omega)
    have q : swOk (4096 * k + 256 * ((n - 4096 * k) / 256) + n % 256) = true := q
    rw [show 4096 * k + 256 * ((n - 4096 * k) / 256) + n % 256 = n from by omega] at q
    exact q
  rcases (by omega : n / 4096 = 0 ∨ n / 4096 = 1 ∨ n / 4096 = 2 ∨ n / 4096 = 3 ∨ n / 4096 = 4 ∨ n / 4096 = 5 ∨ n / 4096 = 6 ∨ n / 4096 = 7 ∨ n / 4096 = 8 ∨ n / 4096 = 9 ∨ n / 4096 = 10 ∨ n / 4096 = 11 ∨ n / 4096 = 12 ∨ n / 4096 = 13 ∨ n / 4096 = 14 ∨ n / 4096 = 15) with h | h | h | h | h | h | h | h | h | h | h | h | h | h | h | h
  · exact g 0 sw_0 (by omega) (by omega)
  · exact g 1 sw_1 (by omega) (by omega)
  · exact g 2 sw_2 (by omega) (by omega)
  · exact g 3 sw_3 (by omega) (by omega)
  · exact g 4 sw_4 (by omega) (by omega)
  · exact g 5 sw_5 (by omega) (by omega)
  · exact g 6 sw_6 (by omega) (by omega)
  · exact g 7 sw_7 (by omega) (by omega)
  · exact g 8 sw_8 (by omega) (by omega)
  · exact g 9 sw_9 (by omega) (by omega)
  · exact g 10 sw_10 (by omega) (by omega)
  · exact g 11 sw_11 (by omega) (by omega)
  · exact g 12 sw_12 (by omega) (by omega)
  · exact g 13 sw_13 (by omega) (by omega)
  · exact g 14 sw_14 (by omega) (by omega)
  · exact g 15 sw_15 (by omega) (by omega)
theorem sw_e {n : Nat} (hn : n < 65536) : sw5 (sw4 (sw3 (sw2 (sw1 n)))) &&& 63 = pcn 16 n ∧ (n ≠ 0 → pcn 16 (n &&& (n - 1)) + 1 = pcn 16 n) := by
  have h := sw_all hn
  unfold swOk at h
  rw [Bool.and_eq_true, Bool.or_eq_true] at h
  refine ⟨Nat.eq_of_beq_eq_true h.1, fun h0 => ?_⟩
  rcases h.2 with q | q
  · exact absurd (Nat.eq_of_beq_eq_true q) h0
  · exact Nat.eq_of_beq_eq_true q
theorem inN {x : Int32} {m : Nat} (h : x.toBitVec.toNat = m) (hm : m < 2147483648) : x.toInt = (m : Int) := by
  show x.toBitVec.toInt = _
  rw [BitVec.toInt_eq_toNat_of_lt (by rw [h]; show 2 * m < 4294967296; omega), h]
theorem n32_n {m : Nat} (hm : m < 2147483648) : (i32 (m : Int)).toBitVec.toNat = m := by
  rw [n32]
  omega
theorem iand_n {m k : Nat} (hm : m < 2147483648) (hk : k < 2147483648) : iandI (m : Int) (k : Int) = ((m &&& k : Nat) : Int) := by
  have hl : m &&& k ≤ m := Nat.and_le_left
  exact inN (by rw [Int32.toBitVec_and, BitVec.toNat_and, n32_n hm, n32_n hk]) (by omega)
theorem ior_n {m k : Nat} (hm : m < 2147483648) (hk : k < 2147483648) : iorI (m : Int) (k : Int) = ((m ||| k : Nat) : Int) := by
  have hl : m ||| k < 2 ^ 31 := Nat.or_lt_two_pow (n := 31) hm hk
  exact inN (by rw [Int32.toBitVec_or, BitVec.toNat_or, n32_n hm, n32_n hk]) hl
theorem iushr_n {m k : Nat} (hm : m < 2147483648) (hk : k ≤ 20) : iushrI (m : Int) (k : Int) = ((m >>> k : Nat) : Int) := by
  have e2 := ush_c ⟨k, by omega⟩
  have e2 : (((i32 (k : Int)).toUInt32 &&& Int32.toUInt32 31).toBitVec % 32).toNat = k := e2
  have hl : m >>> k ≤ m := Nat.shiftRight_le m k
  refine inN ?_ (by omega)
  show (((i32 (m : Int)).toUInt32 >>> ((i32 (k : Int)).toUInt32 &&& Int32.toUInt32 31)).toBitVec).toNat = _
  rw [UInt32.toBitVec_shiftRight, BitVec.ushiftRight_eq', BitVec.toNat_ushiftRight, e2]
  show (i32 (m : Int)).toBitVec.toNat >>> k = _
  rw [n32_n hm]
section PCB
variable {d : Nat} {V : Mem} {S : Shp} {Q : Int → Mem → Shp → Prop}
theorem sw_b1 {n : Nat} (hn : n < 65536) : (n : Int) - iandI (iushrI (n : Int) 1) 1431655765 = (sw1 n : Int) ∧ sw1 n ≤ 65535 := by
  have e1 : iushrI (n : Int) 1 = ((n >>> 1 : Nat) : Int) := iushr_n (k := 1) (by omega) (by omega)
  have hl : n >>> 1 ≤ n := Nat.shiftRight_le n 1
  have e2 : iandI ((n >>> 1 : Nat) : Int) 1431655765 = ((n >>> 1 &&& 1431655765 : Nat) : Int) := iand_n (k := 1431655765) (by omega) (by omega)
  have hl2 : n >>> 1 &&& 1431655765 ≤ n >>> 1 := Nat.and_le_left
  rw [e1, e2]
  unfold sw1
  omega
theorem sw_b2 {n : Nat} (hn : n ≤ 65535) : iandI (n : Int) 858993459 + iandI (iushrI (n : Int) 2) 858993459 = (sw2 n : Int) ∧ sw2 n ≤ 131070 := by
  have e1 : iushrI (n : Int) 2 = ((n >>> 2 : Nat) : Int) := iushr_n (k := 2) (by omega) (by omega)
  have hl : n >>> 2 ≤ n := Nat.shiftRight_le n 2
  have e2 : iandI ((n >>> 2 : Nat) : Int) 858993459 = ((n >>> 2 &&& 858993459 : Nat) : Int) := iand_n (k := 858993459) (by omega) (by omega)
  have e3 : iandI (n : Int) 858993459 = ((n &&& 858993459 : Nat) : Int) := iand_n (k := 858993459) (by omega) (by omega)
  have hl2 : n >>> 2 &&& 858993459 ≤ n >>> 2 := Nat.and_le_left
  have hl3 : n &&& 858993459 ≤ n := Nat.and_le_left
  rw [e1, e2, e3]
  unfold sw2
  omega
theorem sw_b3 {n : Nat} (hn : n ≤ 131070) : iandI ((n : Int) + iushrI (n : Int) 4) 252645135 = (sw3 n : Int) ∧ sw3 n ≤ 262140 := by
  have e1 : iushrI (n : Int) 4 = ((n >>> 4 : Nat) : Int) := iushr_n (k := 4) (by omega) (by omega)
  have hl : n >>> 4 ≤ n := Nat.shiftRight_le n 4
  have e2 : (n : Int) + ((n >>> 4 : Nat) : Int) = ((n + n >>> 4 : Nat) : Int) := (Int.natCast_add n (n >>> 4)).symm
  have e3 : iandI ((n + n >>> 4 : Nat) : Int) 252645135 = ((n + n >>> 4 &&& 252645135 : Nat) : Int) := iand_n (k := 252645135) (by omega) (by omega)
  have hl3 : (n + n >>> 4) &&& 252645135 ≤ n + n >>> 4 := Nat.and_le_left
  rw [e1, e2, e3]
  unfold sw3
  omega
theorem sw_b4 {n : Nat} (hn : n ≤ 262140) : (n : Int) + iushrI (n : Int) 8 = (sw4 n : Int) ∧ sw4 n ≤ 524280 := by
  have e1 : iushrI (n : Int) 8 = ((n >>> 8 : Nat) : Int) := iushr_n (k := 8) (by omega) (by omega)
  have hl : n >>> 8 ≤ n := Nat.shiftRight_le n 8
  rw [e1]
  unfold sw4
  omega
theorem sw_b5 {n : Nat} (hn : n ≤ 524280) : (n : Int) + iushrI (n : Int) 16 = (sw5 n : Int) ∧ sw5 n ≤ 1048560 := by
  have e1 : iushrI (n : Int) 16 = ((n >>> 16 : Nat) : Int) := iushr_n (k := 16) (by omega) (by omega)
  have hl : n >>> 16 ≤ n := Nat.shiftRight_le n 16
  rw [e1]
  unfold sw5
  omega
theorem p_bitCount {n : Nat} (hn : n < 65536) : C_Integer_bitCount_I (d + 1) (n : Int) V S Q ↔ Q ((pcn 16 n : Nat) : Int) V S := by
  obtain ⟨e1, b1⟩ := sw_b1 hn
  obtain ⟨e2, b2⟩ := sw_b2 b1
  obtain ⟨e3, b3⟩ := sw_b3 b2
  obtain ⟨e4, b4⟩ := sw_b4 b3
  obtain ⟨e5, b5⟩ := sw_b5 b4
  have e6 : iandI (sw5 (sw4 (sw3 (sw2 (sw1 n)))) : Int) 63 = ((sw5 (sw4 (sw3 (sw2 (sw1 n)))) &&& 63 : Nat) : Int) := iand_n (k := 63) (by omega) (by omega)
  rw [I_Integer_bitCount_I, e1, e2, e3, e4, e5, e6, (sw_e hn).1]
theorem pcn_0 (k : Nat) : pcn k 0 = 0 := by
  induction k with
  | zero => rfl
  | succ k ih => show 0 % 2 + pcn k (0 / 2) = 0; rw [show 0 / 2 = 0 from rfl, ih]
theorem pcn_z {n : Nat} (hn : n < 65536) (h : pcn 16 n = 0) : n = 0 := by
  by_cases e : n = 0
  · exact e
  · have := (sw_e hn).2 e
    omega
theorem m_ones_l {g : Cnt} : ∀ (N n : Nat) (c : Int) (u0 u1 : XV), pcn 16 n = N → n < 65536 → (K_m_ones d Q (4, [u0, u1, (0, c), (0, (n : Int))], [], V, S, g) ↔ Q (c + (N : Int)) V S) := by
  intro N
  induction N with
  | zero =>
    intro n c u0 u1 h hn
    have e := pcn_z hn h
    subst e
    rw [L_m_ones_4]
    simp only [show s32 ((0 : Nat) : Int) = 0 from l0, show c + ((0 : Nat) : Int) = c from Int.add_zero c, b_s32, b_eq0, b_01, l0, l1, true_and, and_true, and_self, true_implies, false_implies, implies_true, forall_const, not_true_eq_false, not_false_eq_true, reduceIte, ite_true, ite_false, reduceCtorEq, forall_eq, Classical.not_not, true_or, or_true, false_or, or_false, and_false, false_and, Int.reduceEq, Int.reduceLT, Int.reduceLE, Int.reduceAdd, Int.reduceSub, Int.reduceMul, Int.reduceNeg]
  | succ N ih =>
    intro n c u0 u1 h hn
    have e : n ≠ 0 := fun e => by rw [e, pcn_0] at h; omega
    have h2 := (sw_e hn).2 e
    have hl : n &&& (n - 1) ≤ n := Nat.and_le_left
    have ea : iandI (n : Int) ((n : Int) - 1) = ((n &&& (n - 1) : Nat) : Int) := by
      rw [show (n : Int) - 1 = ((n - 1 : Nat) : Int) from by omega]
      exact iand_n (by omega) (by omega)
    have sn : s32 (n : Int) = (n : Int) := s32_id (by omega) (by omega)
    have g2 := ih (n &&& (n - 1)) (c + 1) (9, 0) (9, 0) (by omega) (by omega)
    rw [show c + 1 + (N : Int) = c + ((N + 1 : Nat) : Int) from by omega] at g2
    rw [L_m_ones_4]
    simp only [sn, show ¬ (n : Int) = 0 from by omega, ea, g2, b_s32, b_eq0, b_01, l0, l1, true_and, and_true, and_self, true_implies, false_implies, implies_true, forall_const, not_true_eq_false, not_false_eq_true, reduceIte, ite_true, ite_false, reduceCtorEq, forall_eq, Classical.not_not, true_or, or_true, false_or, or_false, and_false, false_and, Int.reduceEq, Int.reduceLT, Int.reduceLE, Int.reduceAdd, Int.reduceSub, Int.reduceMul, Int.reduceNeg]
theorem p_ones {n : Nat} (hS : FS S) (hn : n < 65536) : C_m_ones (d + 1) 137 (n : Int) V S Q ↔ Q ((pcn 16 n : Nat) : Int) V S := by
  rw [I_m_ones, m_ones_l (pcn 16 n) n 0 _ _ rfl hn, Int.zero_add]
  simp only [hS.k137, b_s32, b_eq0, b_01, l0, l1, true_and, and_true, and_self, true_implies, false_implies, implies_true, forall_const, not_true_eq_false, not_false_eq_true, reduceIte, ite_true, ite_false, reduceCtorEq, forall_eq, Classical.not_not, true_or, or_true, false_or, or_false, and_false, false_and, Int.reduceEq, Int.reduceLT, Int.reduceLE, Int.reduceAdd, Int.reduceSub, Int.reduceMul, Int.reduceNeg]
end PCB
/-- one set of bits within another -/
def sb (a b : Nat) : Prop := ∀ j, a.testBit j = true → b.testBit j = true
theorem pcn_mono : ∀ (k a b : Nat), sb a b → pcn k a ≤ pcn k b
  | 0, _, _, _ => Nat.le_refl _
  | k + 1, a, b, h => by
    have ih := pcn_mono k (a / 2) (b / 2) (fun j hj => by rw [← Nat.testBit_succ] at hj ⊢; exact h _ hj)
    have h0 := h 0
    rw [Nat.testBit_zero, Nat.testBit_zero, decide_eq_true_eq, decide_eq_true_eq] at h0
    show a % 2 + pcn k (a / 2) ≤ b % 2 + pcn k (b / 2)
    by_cases c : a % 2 = 1
    · have := h0 c; omega
    · omega
theorem pcn_lt : ∀ (k a b i : Nat), sb a b → i < k → b.testBit i = true → a.testBit i = false → pcn k a + 1 ≤ pcn k b
  | 0, _, _, i, _, hi, _, _ => absurd hi (Nat.not_lt_zero i)
  | k + 1, a, b, i, h, hi, hb, ha => by
    have hs : sb (a / 2) (b / 2) := fun j hj => by rw [← Nat.testBit_succ] at hj ⊢; exact h _ hj
    have h0 := h 0
    rw [Nat.testBit_zero, Nat.testBit_zero, decide_eq_true_eq, decide_eq_true_eq] at h0
    show a % 2 + pcn k (a / 2) + 1 ≤ b % 2 + pcn k (b / 2)
    cases i with
    | zero =>
      have m := pcn_mono k _ _ hs
      rw [Nat.testBit_zero, decide_eq_true_eq] at hb
      rw [Nat.testBit_zero, decide_eq_false_iff_not] at ha
      omega
    | succ i =>
      rw [Nat.testBit_succ] at hb ha
      have m := pcn_lt k _ _ i hs (by omega) hb ha
      by_cases c : a % 2 = 1
      · have := h0 c; omega
      · omega
theorem sb_le {a b : Nat} (h : sb a b) : a ≤ b := by
  have e : a &&& b = a := by
    apply Nat.eq_of_testBit_eq
    intro j
    rw [Nat.testBit_and]
    cases c : a.testBit j
    · rfl
    · rw [h j c]; rfl
  have := @Nat.and_le_right a b
  omega
theorem sb_or {c s i : Nat} (h : sb c s) (hi : s.testBit i = true) : sb (c ||| 2 ^ i) s := fun j hj => by
  rw [Nat.testBit_or, Nat.testBit_two_pow, Bool.or_eq_true, decide_eq_true_eq] at hj
  rcases hj with q | q
  · exact h j q
  · rw [← q]; exact hi
theorem ex_bit {x : Nat} (h : x ≠ 0) : ∃ i, x.testBit i = true := by
  refine Classical.byContradiction (fun n => h (Nat.eq_of_testBit_eq (fun i => ?_)))
  rw [Nat.zero_testBit]
  cases e : x.testBit i
  · rfl
  · exact absurd ⟨i, e⟩ n
theorem bit_16 {x i : Nat} (hx : x < 65536) (h : x.testBit i = true) : i < 16 := by
  by_cases c : i < 16
  · exact c
  · have := Nat.testBit_lt_two_pow (Nat.lt_of_lt_of_le (show x < 2 ^ 16 from hx) (Nat.pow_le_pow_right (n := 2) (by decide) (show 16 ≤ i by omega)))
    rw [this] at h
    cases h
theorem smd_c : ∀ i : Fin 32, (((i32 (i.val : Int) &&& 31).toBitVec).smod 32).toNat = i.val := by decide +kernel
/-- a bit that is shifted to the end -/
theorem sh_bit {n i : Nat} (hn : n < 2147483648) (hi : i < 31) : iandI (ishrI (n : Int) (i : Int)) 1 = b2 (n.testBit i) := by
  have hs := smd_c ⟨i, by omega⟩
  have hs : (((i32 (i : Int) &&& 31).toBitVec).smod 32).toNat = i := hs
  rw [and_b]
  congr 1
  unfold gb ishrI
  rw [i32_toInt, Int32.toBitVec_shiftRight, BitVec.sshiftRight_eq', hs, BitVec.getLsbD_sshiftRight]
  have h2 : i < 32 := by omega
  have e : n.testBit i = (i32 (n : Int)).toBitVec.getLsbD i := by
    show _ = (i32 (n : Int)).toBitVec.toNat.testBit i
    rw [n32_n hn]
  rw [e]
  simp [h2]
def key (n : Nat) : Nat := 65536 * pcn 16 n + n
theorem key_sb {a b : Nat} (h : sb a b) : key a ≤ key b := by
  have h1 := pcn_mono 16 a b h
  have h2 := sb_le h
  unfold key
  omega
