/-! calls on the logical memory and on a related one -/
section RC
variable {ρ : Int → Int} {B : Int} {V V' : Mem} {S S' : Shp}
theorem RM.rez (h : RM ρ B V S V' S') {z1 B1 : Int} (h0 : 0 ≤ z1) (hf : ∀ a, z1 ≤ a → a < B1 → S.1 a = -1) : RM ρ B1 V (S.1, S.2.1, z1) V' S' :=
  ⟨⟨h.1.1, h.1.2.1, h0, h.1.2.2.2⟩, h.2.1, h.2.2.1, h.2.2.2.1, hf, h.2.2.2.2.2⟩
theorem XE.rez {ρ1 : Int → Int} {S1 : Shp} {z1 : Int} (h : XE ρ ρ1 (S.1, S.2.1, z1) S1) : XE ρ ρ1 S S1 := h
theorem LR.rez {l l' : List XV} {z1 : Int} (h : LR ρ S l l') : LR ρ (S.1, S.2.1, z1) l l' := h
theorem cv_rel {d t y n k : Nat} (hY : YT.any (fun q => Nat.beq q.1 y && Nat.beq q.2.1 n && Nat.beq q.2.2.1 k) = true) {As As' : List XV} {Q Q' : Int → Mem → Shp → Prop} (hM : RM ρ B V S V' S') (hL : LR ρ S As As') (hB : S.2.2 + ((mcc y).1 : Int) ≤ B) (h : Cv MM d t y As V S Q)
    (hq : ∀ (x : Int) (V1 : Mem) (S1 : Shp) (ρ1 : Int → Int) (V1' : Mem) (S1' : Shp), Q x V1 S1 → RM ρ1 B V1 S1 V1' S1' → XE ρ ρ1 S S1 → S1.2.2 ≤ S.2.2 + ((mcc y).1 : Int) → Q' (rX ρ1 (t, x)).2 V1' S1') : Cv MM d t y As' V' S' Q' := by
  obtain ⟨x, V1, S1, hR, hQ⟩ := h
  obtain ⟨ρ1, ⟨o, V1', S1'⟩, r1, r2, r3, r4, r5, r6⟩ := run_rel d B ρ V S V' S' hM y n k As As' _ hY hL hB hR
  have r2 : o = some (rX ρ1 (t, x)) := r2
  subst r2
  exact ⟨_, V1', S1', r1, hq x V1 S1 ρ1 V1' S1' hQ r4 r5 r6⟩
theorem cu_rel {d y n k : Nat} (hY : YT.any (fun q => Nat.beq q.1 y && Nat.beq q.2.1 n && Nat.beq q.2.2.1 k) = true) {As As' : List XV} {Q Q' : Mem → Shp → Prop} (hM : RM ρ B V S V' S') (hL : LR ρ S As As') (hB : S.2.2 + ((mcc y).1 : Int) ≤ B) (h : Cu MM d y As V S Q)
    (hq : ∀ (V1 : Mem) (S1 : Shp) (ρ1 : Int → Int) (V1' : Mem) (S1' : Shp), Q V1 S1 → RM ρ1 B V1 S1 V1' S1' → XE ρ ρ1 S S1 → S1.2.2 ≤ S.2.2 + ((mcc y).1 : Int) → Q' V1' S1') : Cu MM d y As' V' S' Q' := by
  obtain ⟨V1, S1, hR, hQ⟩ := h
  obtain ⟨ρ1, ⟨o, V1', S1'⟩, r1, r2, r3, r4, r5, r6⟩ := run_rel d B ρ V S V' S' hM y n k As As' _ hY hL hB hR
  have r2 : o = none := r2
  subst r2
  exact ⟨V1', S1', r1, hq V1 S1 ρ1 V1' S1' hQ r4 r5 r6⟩
/-- one turn's two calls: what holds on the logical memory holds of the related one -/
theorem pair_rel {d t y1 n1 k1 y2 n2 k2 : Nat} (ht : Nat.beq t 2 = false) (hY1 : YT.any (fun q => Nat.beq q.1 y1 && Nat.beq q.2.1 n1 && Nat.beq q.2.2.1 k1) = true) (hY2 : YT.any (fun q => Nat.beq q.1 y2 && Nat.beq q.2.1 n2 && Nat.beq q.2.2.1 k2) = true) (hc2 : (mcc y2).1 = 0) {As1 As1' As2 As2' : List XV} {I : Mem → Shp → Prop} {Q' : Int → Mem → Shp → Prop}
    (hM : RM ρ B V S V' S') (hL1 : LR ρ S As1 As1') (hL2 : LR ρ S As2 As2') {z1 : Int} (hz : 0 ≤ z1) (hf : ∀ a, z1 ≤ a → a < z1 + ((mcc y1).1 : Int) → S.1 a = -1)
    (h : Cv MM d t y1 As1 V (S.1, S.2.1, z1) (fun r V1 S1 => Cv MM d t y2 As2 V1 S1 (fun r' V2 S2 => r = r' ∧ I V2 S2)))
    (hq : ∀ (r : Int) (ρ1 : Int → Int) (V1 : Mem) (S1 : Shp) (V1' : Mem) (S1' : Shp), RM ρ1 (z1 + ((mcc y1).1 : Int)) V1 S1 V1' S1' → XE ρ ρ1 S S1 →
      (∀ Q2' : Int → Mem → Shp → Prop, (∀ (ρ2 : Int → Int) (V2 : Mem) (S2 : Shp) (V2' : Mem) (S2' : Shp), I V2 S2 → RM ρ2 (z1 + ((mcc y1).1 : Int)) V2 S2 V2' S2' → XE ρ ρ2 S S2 → Q2' r V2' S2') → Cv MM d t y2 As2' V1' S1' Q2') → Q' r V1' S1') : Cv MM d t y1 As1' V' S' Q' := by
  have ex : ∀ (ρ1 : Int → Int) (x : Int), (rX ρ1 (t, x)).2 = x := fun ρ1 x => by rw [rX_n ht]
  refine cv_rel hY1 (hM.rez hz hf) hL1.rez (Int.le_refl _) h ?_
  intro x V1 S1 ρ1 V1' S1' hQ hM1 hX1 hz1
  rw [ex]
  refine hq x ρ1 V1 S1 V1' S1' hM1 hX1.rez ?_
  intro Q2' hq2
  refine cv_rel hY2 hM1 (hL2.rez.ext hX1) (by rw [hc2]; exact Int.le_trans (by show S1.2.2 + 0 ≤ S1.2.2; omega) hz1) hQ ?_
  intro x2 V2 S2 ρ2 V2' S2' hQ2 hM2 hX2 _
  rw [ex]
  obtain ⟨e, hI⟩ := hQ2
  subst e
  exact hq2 ρ2 V2 S2 V2' S2' hI hM2 (hX1.rez.tr hX2)
end RC
/-- the law on the logical memory, and on a related one -/
theorem k_rel {d : Nat} {Q Q' : Res → Prop} {ρ : Int → Int} {B : Int} {V V' : Mem} {S S' : Shp} {pc : Nat} {ls ls' : List XV} {g : Cnt} (h : Ok MM d (600000, 7302250) cd_law_law Q (pc, ls, [], V, S, g)) (hL : LR ρ S ls ls') (hM : RM ρ B V S V' S') (hg : g.1 ≤ 600000 ∧ g.2 ≤ 7302250) (hB : S.2.2 + 600000 ≤ B + (g.1 : Int))
    (hQ : ∀ w w' : Res, Q w → (w.1 = some (0, 1) → w'.1 = some (0, 1)) → Q' w') : Ok MM d (600000, 7302250) cd_law_law Q' (pc, ls', [], V', S', g) := by
  obtain ⟨n, w, hE, hw⟩ := h
  have hO := rel_go (ρ0 := ρ) (S0 := (S.1, S.2.1, S.2.2)) (B := B) (mc := (600000, 7302250)) ck_law (fun ρ V S V' S' hM => run_rel d B ρ V S V' S' hM) n ρ pc ls ls' [] [] V S V' S' g w hE hL LR.nil ⟨hM, XE.rf, hg, hB, by show S.2.2 ≤ S.2.2 + (g.1 : Int); omega⟩
  obtain ⟨n', w', hE', ρ1, r1, -⟩ := hO
  exact ⟨n', w', hE', hQ w w' hw (fun e => by rw [r1, e]; rfl)⟩
theorem s0_b {b L z : Nat} : (S0 b L z).1 (b : Int) = 104 := if_pos (Or.inl rfl)
theorem s0_n {b L z : Nat} : (S0 b L z).2.1 (b : Int) = (L : Int) := if_pos rfl
theorem v0_b {b : Nat} {xs : Nat → Int32} {k : Int} : V0 b xs (b : Int) k = (xs k.toNat).toInt := if_pos rfl
/-- what is owed, with the script at 50 and the first new object at 100 -/
theorem lawRuns_of (h : ∀ (L : Nat) (xs : Nat → Int32), L ≤ 3072 → ∃ d, d ≤ 400 ∧ K_law_law d (fun x _ _ => x = 1) (0, [(2, 50), (9, 0), (9, 0), (9, 0)], [], V0 50 xs, S0 50 L 100, (0, 0))) : LawRuns := by
  intro b L z xs hbz hL
  obtain ⟨d, hd, hK⟩ := h L xs hL
  refine ⟨d, hd, ?_⟩
  let ρ : Int → Int := fun a => if a = 50 then (b : Int) else a
  have kx : ∀ a, (S0 50 L 100).1 a ≠ -1 → a = 50 ∨ (a ≠ 50 ∧ -8 ≤ a ∧ a ≤ -2) := by
    intro a ha
    rcases s0_K (b := 50) (L := L) (z := 100) (a := a) with ⟨-, h⟩ | ⟨-, h⟩ | h
    · rcases h with h | h | h
      · exact Or.inl h
      · exact Or.inr ⟨by omega, by omega, by omega⟩
      · exact Or.inr ⟨by omega, by omega, by omega⟩
    · exact Or.inr ⟨by omega, by omega, by omega⟩
    · exact absurd h ha
  have r50 : ρ 50 = (b : Int) := if_pos rfl
  have rn : ∀ a, a ≠ 50 → ρ a = a := fun a h => if_neg h
  have hK1 : ∀ a : Int, -8 ≤ a → a ≤ -2 → (S0 b L z).1 a = (S0 50 L 100).1 a := by
    intro a h1 h2
    show (if a = (b : Int) ∨ a = -2 ∨ a = -3 then (104 : Int) else if -8 ≤ a ∧ a ≤ -4 then 130 else -1) = (if a = ((50 : Nat) : Int) ∨ a = -2 ∨ a = -3 then (104 : Int) else if -8 ≤ a ∧ a ≤ -4 then 130 else -1)
    have e1 : ¬ a = (b : Int) := by omega
    have e2 : ¬ a = ((50 : Nat) : Int) := by omega
    simp only [e1, e2]
  have hN1 : ∀ a : Int, -8 ≤ a → a ≤ -2 → (S0 b L z).2.1 a = (S0 50 L 100).2.1 a := by
    intro a h1 h2
    show (if a = (b : Int) then (L : Int) else if a = -2 then 7 else if a = -3 then 21 else ((strL.getD (-4 - a).toNat 0 : Nat) : Int)) = (if a = ((50 : Nat) : Int) then (L : Int) else if a = -2 then 7 else if a = -3 then 21 else ((strL.getD (-4 - a).toNat 0 : Nat) : Int))
    have e1 : ¬ a = (b : Int) := by omega
    have e2 : ¬ a = ((50 : Nat) : Int) := by omega
    rw [if_neg e1, if_neg e2]
  have hV1 : ∀ a k : Int, -8 ≤ a → a ≤ -2 → V0 b xs a k = V0 50 xs a k := by
    intro a k h1 h2
    show (if a = (b : Int) then _ else _) = (if a = ((50 : Nat) : Int) then _ else _)
    have e1 : ¬ a = (b : Int) := by omega
    have e2 : ¬ a = ((50 : Nat) : Int) := by omega
    rw [if_neg e1, if_neg e2]
  have hnr : ∀ a k : Int, (S0 50 L 100).1 a ≠ -1 → refS ((S0 50 L 100).1 a) k = false := by
    intro a k ha
    rcases s0_K (b := 50) (L := L) (z := 100) (a := a) with ⟨h, -⟩ | ⟨h, -⟩ | h
    · rw [h]; rfl
    · rw [h]; rfl
    · exact absurd h ha
  have hM : RM ρ 700000 (V0 50 xs) (S0 50 L 100) (V0 b xs) (S0 b L z) := by
    refine ⟨⟨rn _ (by omega), ?_, by show (0 : Int) ≤ ((100 : Nat) : Int); omega, by show (0 : Int) ≤ (z : Int); omega⟩, fun a ha => ?_, fun a ha => ?_, fun a c ha hc e => ?_, fun a h1 h2 => ?_, fun a h1 h2 => ?_⟩
    · rcases s0_K (b := 50) (L := L) (z := 100) (a := -1) with ⟨-, h⟩ | ⟨-, h⟩ | h
      · omega
      · omega
      · exact h
    · have hr := hnr a
      unfold sv
      rcases kx a ha with rfl | ⟨e, h1, h2⟩
      · rw [r50]
        refine ⟨?_, fun _ => ?_, fun k => ?_⟩
        · exact s0_b.trans (s0_b (b := 50) (L := L) (z := 100)).symm
        · exact s0_n.trans (s0_n (b := 50) (L := L) (z := 100)).symm
        · rw [hr k ha]
          exact ⟨v0_b.trans (v0_b (b := 50) (xs := xs) (k := k)).symm, fun z => by cases z⟩
      · rw [rn a e]
        refine ⟨hK1 a h1 h2, fun _ => hN1 a h1 h2, fun k => ?_⟩
        rw [hr k ha]
        exact ⟨hV1 a k h1 h2, fun z => by cases z⟩
    · rcases kx a ha with rfl | ⟨e, h1, h2⟩
      · rw [r50]; exact ⟨fun h => by omega, fun _ => ⟨by omega, by show (b : Int) < (z : Int); omega⟩⟩
      · rw [rn a e]; exact ⟨fun _ => rfl, fun h => by omega⟩
    · rcases kx a ha with rfl | ⟨e1, h1, h2⟩ <;> rcases kx c hc with rfl | ⟨e2, h3, h4⟩
      · rfl
      · rw [r50, rn c e2] at e; omega
      · rw [r50, rn a e1] at e; omega
      · rw [rn a e1, rn c e2] at e; exact e
    · have h1 : (100 : Int) ≤ a := h1
      rcases s0_K (b := 50) (L := L) (z := 100) (a := a) with ⟨-, h⟩ | ⟨-, h⟩ | h
      · omega
      · omega
      · exact h
    · rcases s0_K (b := 50) (L := L) (z := 100) (a := a) with ⟨h, -⟩ | ⟨h, -⟩ | h
      · rw [h]; decide
      · rw [h]; decide
      · exfalso
        have : (if a = ((50 : Nat) : Int) ∨ a = -2 ∨ a = -3 then (104 : Int) else if -8 ≤ a ∧ a ≤ -4 then 130 else -1) = -1 := h
        by_cases q : a = -2 ∨ a = -3
        · rw [if_pos (Or.inr q)] at this; omega
        · rw [if_neg (by omega), if_pos (by omega)] at this; omega
  have hL2 : LR ρ (S0 50 L 100) [(2, 50), (9, 0), (9, 0), (9, 0)] [(2, (b : Int)), (9, 0), (9, 0), (9, 0)] := by
    have := LR.ref (ρ := ρ) (S := S0 50 L 100) (x := 50) (Or.inr (by rw [show (S0 50 L 100).1 50 = 104 from s0_b (b := 50)]; decide)) (LR.num (t := 9) (x := 0) rfl (LR.num (t := 9) (x := 0) rfl (LR.num (t := 9) (x := 0) rfl LR.nil)))
    rw [r50] at this
    exact this
  refine k_rel hK hL2 hM ⟨Nat.zero_le _, Nat.zero_le _⟩ (by show ((100 : Nat) : Int) + 600000 ≤ 700000 + ((0 : Nat) : Int); omega) ?_
  intro w w' hw hww
  refine hww ?_
  obtain ⟨x, V1, S1, e, e2⟩ := (rq_iff 0 _ w).mp hw
  rw [e, e2]
