/-! the start: what the abstract machine finds there -/
def aboL : List Int := [-1, 0, 0, 2, 0, 0, 1]
def bodL : List Int := [10, 11, 12, 0, 20, 0, 30, 0, 31, 0, 40, 41, 50, 0, 0, 0, 0, 60, 0, 70, 71]
def strB : List (List Int32) := [[115, 117, 109, 32], [103, 114, 97, 99, 101, 32], [114, 117, 110, 32], [102, 101, 116, 99, 104, 32], [111, 102, 102, 32]]
def strL : List Nat := [4, 6, 4, 6, 4]
def S0 (b L z : Nat) : Shp := (fun a => if a = (b : Int) ∨ a = -2 ∨ a = -3 then 104 else if -8 ≤ a ∧ a ≤ -4 then 130 else -1, fun a => if a = (b : Int) then (L : Int) else if a = -2 then 7 else if a = -3 then 21 else ((strL.getD (-4 - a).toNat 0 : Nat) : Int), (z : Int))
def V0 (b : Nat) (xs : Nat → Int32) : Mem := fun a j => if a = (b : Int) then (xs j.toNat).toInt else if a = -2 then aboL.getD j.toNat 0 else if a = -3 then bodL.getD j.toNat 0 else (((strB.getD (-4 - a).toNat []).getD j.toNat 0).toInt)
theorem str_by : ∀ i, i < 5 → ∀ b ∈ strB.getD i [], 0 ≤ b.toInt ∧ b.toInt < 128 := by decide +kernel
theorem str_ln : ∀ i, i < 5 → (strB.getD i []).length = strL.getD i 0 ∧ strL.getD i 0 < 100 := by decide +kernel
theorem s0_K {b L z : Nat} {a : Int} : ((S0 b L z).1 a = 104 ∧ (a = (b : Int) ∨ a = -2 ∨ a = -3)) ∨ ((S0 b L z).1 a = 130 ∧ -8 ≤ a ∧ a ≤ -4) ∨ (S0 b L z).1 a = -1 := by
  show ((if a = (b : Int) ∨ a = -2 ∨ a = -3 then (104 : Int) else if -8 ≤ a ∧ a ≤ -4 then 130 else -1) = 104 ∧ _) ∨ ((if a = (b : Int) ∨ a = -2 ∨ a = -3 then (104 : Int) else if -8 ≤ a ∧ a ≤ -4 then 130 else -1) = 130 ∧ _) ∨ (if a = (b : Int) ∨ a = -2 ∨ a = -3 then (104 : Int) else if -8 ≤ a ∧ a ≤ -4 then 130 else -1) = -1
  split
  · rename_i h; exact Or.inl ⟨rfl, h⟩
  · split
    · rename_i h; exact Or.inr (Or.inl ⟨rfl, h⟩)
    · exact Or.inr (Or.inr rfl)
def tmS (i : Nat) : Term := .string RX10 (strTx.getD i (0, "")).1
theorem start {args : Array Value} {s : State} {b L : Nat} {xs : Nat → Int32} (hts : ∀ w ∈ lw_tbl, w.before args s = true) (hgv : (Jvm.Cond.and given_1 narrow_1).before args s = true) (hX : va_X b L xs s s.heap) (hbl : b < s.heap.size) (hL : L ≤ 3072) :
    ∃ (D : va_G) (sA : Nat → Nat), CX D s.heap.size sA s s.heap ∧ PPx D s.heap.size sA s (V0 b xs) (S0 b L s.heap.size) s.heap := by
  have hs := flat_of_before _ hgv
  have hA : ∀ a : Nat, a < s.heap.size → ¬ (s.heap.size ≤ a) := fun a h => by omega
  have htb : ∀ w ∈ Tb, w.before args s = true := fun w hw => hts w (List.mem_filter.mp hw).1
  -- classes
  have hD : ∃ D : va_G, ∀ c, c < 13 → u_Kn s (clN c) (TF c) (nfC c) (D.1 c) (D.2 c) := by
    have h0 : ∀ c : Nat, ∃ q : ClassId × (Nat → Nat), c < 13 → u_Kn s (clN c) (TF c) (nfC c) q.1 q.2 := by
      intro c
      by_cases hc : c < 13
      · obtain ⟨cC, iS, h⟩ := u_known htb (LYT_at c hc) (htb _ (NWT_at c hc).1)
        exact ⟨(cC, iS), fun _ => h⟩
      · exact ⟨(0, fun _ => 0), fun h => absurd h hc⟩
    obtain ⟨f, hf⟩ := Classical.axiomOfChoice h0
    exact ⟨(fun c => (f c).1, fun c => (f c).2), hf⟩
  obtain ⟨D, hD⟩ := hD
  -- static arrays
  obtain ⟨t0, ht0, hT0⟩ := va_Tof (tm := .static "SunLamps$Acts" "ABOVE" "[I") (ty := .int) (N := 7) (f := fun j => .int (Int32.ofInt (aboL.getD j 0))) (A := fun q => s.heap.size ≤ q) (by decide) (hs _ (by decide +kernel)) (va_eqt (z := Int32.ofNat 7) (hs _ (by decide +kernel)))
    (fun j hj => match j, hj with
      | 0, _ => va_eqt (hs _ (by decide +kernel)) | 1, _ => va_eqt (hs _ (by decide +kernel)) | 2, _ => va_eqt (hs _ (by decide +kernel)) | 3, _ => va_eqt (hs _ (by decide +kernel)) | 4, _ => va_eqt (hs _ (by decide +kernel)) | 5, _ => va_eqt (hs _ (by decide +kernel)) | 6, _ => va_eqt (hs _ (by decide +kernel))
      | n + 7, h => absurd h (by omega)) hA
  obtain ⟨t1, ht1, hT1⟩ := va_Tof (tm := .static "SunLamps$Acts" "BODIES" "[I") (ty := .int) (N := 21) (f := fun j => .int (Int32.ofInt (bodL.getD j 0))) (A := fun q => s.heap.size ≤ q) (by decide) (hs _ (by decide +kernel)) (va_eqt (z := Int32.ofNat 21) (hs _ (by decide +kernel)))
    (fun j hj => match j, hj with
      | 0, _ => va_eqt (hs _ (by decide +kernel)) | 1, _ => va_eqt (hs _ (by decide +kernel)) | 2, _ => va_eqt (hs _ (by decide +kernel)) | 3, _ => va_eqt (hs _ (by decide +kernel)) | 4, _ => va_eqt (hs _ (by decide +kernel)) | 5, _ => va_eqt (hs _ (by decide +kernel)) | 6, _ => va_eqt (hs _ (by decide +kernel)) | 7, _ => va_eqt (hs _ (by decide +kernel))
      | 8, _ => va_eqt (hs _ (by decide +kernel)) | 9, _ => va_eqt (hs _ (by decide +kernel)) | 10, _ => va_eqt (hs _ (by decide +kernel)) | 11, _ => va_eqt (hs _ (by decide +kernel)) | 12, _ => va_eqt (hs _ (by decide +kernel)) | 13, _ => va_eqt (hs _ (by decide +kernel)) | 14, _ => va_eqt (hs _ (by decide +kernel)) | 15, _ => va_eqt (hs _ (by decide +kernel))
      | 16, _ => va_eqt (hs _ (by decide +kernel)) | 17, _ => va_eqt (hs _ (by decide +kernel)) | 18, _ => va_eqt (hs _ (by decide +kernel)) | 19, _ => va_eqt (hs _ (by decide +kernel)) | 20, _ => va_eqt (hs _ (by decide +kernel))
      | n + 21, h => absurd h (by omega)) hA
  -- strings
  obtain ⟨adK, adV, hS, hev⟩ := vk_Sof (args := args) (s := s) (N := 5) (tm := tmS) (len := strL) (byt := strB) (A := fun q => s.heap.size ≤ q) (by decide)
    (fun i hi => match i, hi with
      | 0, _ => hs _ (by decide +kernel) | 1, _ => hs _ (by decide +kernel) | 2, _ => hs _ (by decide +kernel) | 3, _ => hs _ (by decide +kernel) | 4, _ => hs _ (by decide +kernel) | n + 5, h => absurd h (by omega))
    (fun i hi => match i, hi with
      | 0, _ => hs _ (by decide +kernel) | 1, _ => hs _ (by decide +kernel) | 2, _ => hs _ (by decide +kernel) | 3, _ => hs _ (by decide +kernel) | 4, _ => hs _ (by decide +kernel) | n + 5, h => absurd h (by omega))
    (fun i hi => match i, hi with
      | 0, _ => hs _ (by decide +kernel) | 1, _ => hs _ (by decide +kernel) | 2, _ => hs _ (by decide +kernel) | 3, _ => hs _ (by decide +kernel) | 4, _ => hs _ (by decide +kernel) | n + 5, h => absurd h (by omega))
    (fun i hi => match i, hi with
      | 0, _ => hs _ (by decide +kernel) | 1, _ => hs _ (by decide +kernel) | 2, _ => hs _ (by decide +kernel) | 3, _ => hs _ (by decide +kernel) | 4, _ => hs _ (by decide +kernel) | n + 5, h => absurd h (by omega))
    (fun i hi j hj => match i, hi, j, hj with
      | 0, _, 0, _ => hs _ (by decide +kernel) | 0, _, 1, _ => hs _ (by decide +kernel) | 0, _, 2, _ => hs _ (by decide +kernel) | 0, _, 3, _ => hs _ (by decide +kernel) | 0, _, n + 4, h => absurd h (by simp [strL])
      | 1, _, 0, _ => hs _ (by decide +kernel) | 1, _, 1, _ => hs _ (by decide +kernel) | 1, _, 2, _ => hs _ (by decide +kernel) | 1, _, 3, _ => hs _ (by decide +kernel) | 1, _, 4, _ => hs _ (by decide +kernel) | 1, _, 5, _ => hs _ (by decide +kernel) | 1, _, n + 6, h => absurd h (by simp [strL])
      | 2, _, 0, _ => hs _ (by decide +kernel) | 2, _, 1, _ => hs _ (by decide +kernel) | 2, _, 2, _ => hs _ (by decide +kernel) | 2, _, 3, _ => hs _ (by decide +kernel) | 2, _, n + 4, h => absurd h (by simp [strL])
      | 3, _, 0, _ => hs _ (by decide +kernel) | 3, _, 1, _ => hs _ (by decide +kernel) | 3, _, 2, _ => hs _ (by decide +kernel) | 3, _, 3, _ => hs _ (by decide +kernel) | 3, _, 4, _ => hs _ (by decide +kernel) | 3, _, 5, _ => hs _ (by decide +kernel) | 3, _, n + 6, h => absurd h (by simp [strL])
      | 4, _, 0, _ => hs _ (by decide +kernel) | 4, _, 1, _ => hs _ (by decide +kernel) | 4, _, 2, _ => hs _ (by decide +kernel) | 4, _, 3, _ => hs _ (by decide +kernel) | 4, _, n + 4, h => absurd h (by simp [strL])
      | n + 5, h, _, _ => absurd h (by omega))
    (fun i j hi hj hne => match i, hi, j, hj, hne with
      | 0, _, 0, _, h => absurd rfl h | 0, _, 1, _, _ => Or.inl (hs _ (by decide +kernel)) | 0, _, 2, _, _ => Or.inl (hs _ (by decide +kernel)) | 0, _, 3, _, _ => Or.inl (hs _ (by decide +kernel)) | 0, _, 4, _, _ => Or.inl (hs _ (by decide +kernel))
      | 1, _, 0, _, _ => Or.inr (hs _ (by decide +kernel)) | 1, _, 1, _, h => absurd rfl h | 1, _, 2, _, _ => Or.inl (hs _ (by decide +kernel)) | 1, _, 3, _, _ => Or.inl (hs _ (by decide +kernel)) | 1, _, 4, _, _ => Or.inl (hs _ (by decide +kernel))
      | 2, _, 0, _, _ => Or.inr (hs _ (by decide +kernel)) | 2, _, 1, _, _ => Or.inr (hs _ (by decide +kernel)) | 2, _, 2, _, h => absurd rfl h | 2, _, 3, _, _ => Or.inl (hs _ (by decide +kernel)) | 2, _, 4, _, _ => Or.inl (hs _ (by decide +kernel))
      | 3, _, 0, _, _ => Or.inr (hs _ (by decide +kernel)) | 3, _, 1, _, _ => Or.inr (hs _ (by decide +kernel)) | 3, _, 2, _, _ => Or.inr (hs _ (by decide +kernel)) | 3, _, 3, _, h => absurd rfl h | 3, _, 4, _, _ => Or.inl (hs _ (by decide +kernel))
      | 4, _, 0, _, _ => Or.inr (hs _ (by decide +kernel)) | 4, _, 1, _, _ => Or.inr (hs _ (by decide +kernel)) | 4, _, 2, _, _ => Or.inr (hs _ (by decide +kernel)) | 4, _, 3, _, _ => Or.inr (hs _ (by decide +kernel)) | 4, _, 4, _, h => absurd rfl h
      | n + 5, h, _, _, _ => absurd h (by omega) | 0, _, n + 5, h, _ => absurd h (by omega) | 1, _, n + 5, h, _ => absurd h (by omega) | 2, _, n + 5, h, _ => absurd h (by omega) | 3, _, n + 5, h, _ => absurd h (by omega) | 4, _, n + 5, h, _ => absurd h (by omega)) hA
  let sA : Nat → Nat := fun n => if n = 0 then t0 else if n = 1 then t1 else if n < 7 then adK (n - 2) else adV (n - 102)
  have eK : ∀ i, i < 5 → sA (2 + i) = adK i := fun i hi => by
    show (if 2 + i = 0 then t0 else if 2 + i = 1 then t1 else if 2 + i < 7 then adK (2 + i - 2) else adV (2 + i - 102)) = adK i
    rw [if_neg (by omega), if_neg (by omega), if_pos (by omega)]
    congr 1
    omega
  have eV : ∀ i, i < 5 → sA (102 + i) = adV i := fun i hi => by
    show (if 102 + i = 0 then t0 else if 102 + i = 1 then t1 else if 102 + i < 7 then adK (102 + i - 2) else adV (102 + i - 102)) = adV i
    rw [if_neg (by omega), if_neg (by omega), if_neg (by omega)]
    congr 1
    omega
  refine ⟨D, sA, ⟨fun c q hq => ?_, ⟨?_, ?_, ?_, ?_⟩, fun i q hq => ?_, fun a i x h hm => va_Nw.of rfl (hts _ hm), fun C hm => va_AO.of (hts _ hm)⟩, rfl, Nat.le_refl _, ?_, fun a => ⟨?_, ?_, ?_, ?_, ?_⟩⟩
  · by_cases hc : c < 13
    · have := hq.symm.trans (vw_at c hc)
      cases this
      exact hD c hc
    · exfalso
      have h13 : vwCl.length = 13 := by decide +kernel
      rw [List.getElem?_eq_none (by omega)] at hq
      cases hq
  · exact va_Zof (hts _ (by decide +kernel)) (hts _ (by decide +kernel)) ht0 hA
  · exact va_Zof (hts _ (by decide +kernel)) (hts _ (by decide +kernel)) ht1 hA
  · exact va_Zof (hts _ (by decide +kernel)) (hts _ (by decide +kernel)) (va_eqi (hs _ (by decide +kernel))) hA
  · exact va_Zqof (hts _ (by decide +kernel)) (hts _ (by decide +kernel)) (hs _ (by decide +kernel)) hA
  · match i, hq with
    | 0, hq => cases hq; rw [eK 0 (by decide)]; exact vk_R.of (hts _ (by decide +kernel)) (hev 0 (by decide))
    | 1, hq => cases hq; rw [eK 1 (by decide)]; exact vk_R.of (hts _ (by decide +kernel)) (hev 1 (by decide))
    | 2, hq => cases hq; rw [eK 2 (by decide)]; exact vk_R.of (hts _ (by decide +kernel)) (hev 2 (by decide))
    | 3, hq => cases hq; rw [eK 3 (by decide)]; exact vk_R.of (hts _ (by decide +kernel)) (hev 3 (by decide))
    | 4, hq => cases hq; rw [eK 4 (by decide)]; exact vk_R.of (hts _ (by decide +kernel)) (hev 4 (by decide))
    | n + 5, hq => simp [strTx] at hq
  · rcases s0_K (b := b) (L := L) (z := s.heap.size) (a := -1) with ⟨-, h⟩ | ⟨-, h⟩ | h
    · omega
    · omega
    · exact h
  · intro ci h1 h2
    rcases s0_K (b := b) (L := L) (z := s.heap.size) (a := a) with ⟨h, -⟩ | ⟨h, -⟩ | h <;> omega
  · intro ty hty
    rcases s0_K (b := b) (L := L) (z := s.heap.size) (a := a) with ⟨h, -⟩ | ⟨h, -⟩ | h <;> (rw [h] at hty; cases hty)
  · intro hk
    rcases s0_K (b := b) (L := L) (z := s.heap.size) (a := a) with ⟨-, h⟩ | ⟨h, -⟩ | h
    · rcases h with rfl | rfl | rfl
      · have hN : (S0 b L s.heap.size).2.1 (b : Int) = (L : Int) := if_pos rfl
        have hV : ∀ j : Nat, Value.int (Int32.ofInt (V0 b xs (b : Int) (j : Int))) = .int (xs j) := fun j => by
          have : V0 b xs (b : Int) (j : Int) = (xs (j : Int).toNat).toInt := if_pos rfl
          rw [this, Int32.ofInt_toInt]
          rfl
        rw [hN]
        refine ⟨by omega, by omega, by omega, ?_⟩
        obtain ⟨scr, hcb, hof, hkn, hsz, hval⟩ := hX
        have e : toA sA (b : Int) = b := by unfold toA; rw [if_pos (by omega)]; rfl
        rw [e]
        refine ⟨scr, hcb, hof, hkn, by rw [hsz]; exact Nat.le_refl _, by rw [hsz]; rfl, fun j hj => ?_, hA b hbl⟩
        exact (hval j hj).trans (congrArg some (hV j).symm)
      · have e : toA sA (-2) = t0 := by unfold toA; rw [if_neg (by omega)]; rfl
        have hN : (S0 b L s.heap.size).2.1 (-2) = 7 := by
          show (if (-2 : Int) = (b : Int) then (L : Int) else if (-2 : Int) = -2 then (7 : Int) else if (-2 : Int) = -3 then 21 else ((strL.getD (-4 - (-2 : Int)).toNat 0 : Nat) : Int)) = 7
          rw [if_neg (by omega), if_pos rfl]
        have hV : (fun j : Nat => Value.int (Int32.ofInt (V0 b xs (-2) (j : Int)))) = fun j => .int (Int32.ofInt (aboL.getD j 0)) := by
          funext j
          have : V0 b xs (-2) (j : Int) = aboL.getD (j : Int).toNat 0 := (if_neg (by omega)).trans (if_pos rfl)
          rw [this]
          rfl
        rw [hN, hV, e]
        exact ⟨by omega, by omega, by omega, hT0⟩
      · have e : toA sA (-3) = t1 := by unfold toA; rw [if_neg (by omega)]; rfl
        have hN : (S0 b L s.heap.size).2.1 (-3) = 21 := by
          show (if (-3 : Int) = (b : Int) then (L : Int) else if (-3 : Int) = -2 then (7 : Int) else if (-3 : Int) = -3 then 21 else ((strL.getD (-4 - (-3 : Int)).toNat 0 : Nat) : Int)) = 21
          rw [if_neg (by omega), if_neg (by omega), if_pos rfl]
        have hV : (fun j : Nat => Value.int (Int32.ofInt (V0 b xs (-3) (j : Int)))) = fun j => .int (Int32.ofInt (bodL.getD j 0)) := by
          funext j
          have : V0 b xs (-3) (j : Int) = bodL.getD (j : Int).toNat 0 := (if_neg (by omega)).trans ((if_neg (by omega)).trans (if_pos rfl))
          rw [this]
          rfl
        rw [hN, hV, e]
        exact ⟨by omega, by omega, by omega, hT1⟩
    · omega
    · omega
  · intro hk
    rcases s0_K (b := b) (L := L) (z := s.heap.size) (a := a) with ⟨h, -⟩ | ⟨-, h1, h2⟩ | h
    · omega
    · obtain ⟨i, hi, rfl⟩ : ∃ i : Nat, i < 5 ∧ a = -4 - (i : Int) := ⟨(-4 - a).toNat, by omega, by omega⟩
      have hn : (-4 - (-4 - (i : Int))).toNat = i := by omega
      have hN : (S0 b L s.heap.size).2.1 (-4 - (i : Int)) = ((strL.getD i 0 : Nat) : Int) := by
        have : (S0 b L s.heap.size).2.1 (-4 - (i : Int)) = ((strL.getD (-4 - (-4 - (i : Int))).toNat 0 : Nat) : Int) := (if_neg (by omega)).trans ((if_neg (by omega)).trans (if_neg (by omega)))
        rw [this, hn]
      have hV : ∀ j : Int, V0 b xs (-4 - (i : Int)) j = ((strB.getD i []).getD j.toNat 0).toInt := fun j => by
        have : V0 b xs (-4 - (i : Int)) j = (((strB.getD (-4 - (-4 - (i : Int))).toNat []).getD j.toNat 0).toInt) := (if_neg (by omega)).trans ((if_neg (by omega)).trans (if_neg (by omega)))
        rw [this, hn]
      have e1 : toA sA (-4 - (i : Int)) = adK i := by
        unfold toA
        rw [if_neg (by omega), ← eK i hi]
        congr 1
        omega
      have e2 : toA sA (-4 - (i : Int) - 100) = adV i := by
        unfold toA
        rw [if_neg (by omega), ← eV i hi]
        congr 1
        omega
      obtain ⟨g1, g2, g3, g4⟩ := hS.1 i hi
      have hl := (str_ln i hi).2
      rw [hN, e1, e2]
      refine ⟨by omega, by omega, by omega, fun j => ?_, g1, g2, g3, ?_⟩
      · rw [hV]
        by_cases hj : j.toNat < (strB.getD i []).length
        · rw [List.getD_eq_getElem?_getD, List.getElem?_eq_getElem hj]
          exact str_by i hi _ (List.getElem_mem hj)
        · rw [List.getD_eq_getElem?_getD, List.getElem?_eq_none (by omega)]
          decide
      · have hVf : (fun j : Nat => Value.int (Int32.ofInt (V0 b xs (-4 - (i : Int)) (j : Int)))) = fun j => .int ((strB.getD i []).getD j 0) := by
          funext j
          rw [hV, Int32.ofInt_toInt]
          rfl
        rw [hVf]
        exact g4
    · omega
  · rcases s0_K (b := b) (L := L) (z := s.heap.size) (a := a) with ⟨h, -⟩ | ⟨h, -⟩ | h <;> omega
