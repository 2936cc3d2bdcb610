/-! the turns of the law, a command each (printed by lawgen.py) -/
theorem intsB {As : List XV} (h : As.all (fun v => !Nat.beq v.1 2) = true) : ∀ v ∈ As, Nat.beq v.1 2 = false := fun v hv => by
  have := List.all_eq_true.mp h v hv
  cases e : Nat.beq v.1 2
  · rfl
  · rw [e] at this; cases this
def CKj (L : Nat) (b i j : Int) (S : Shp) : Prop := (S.1 b = 100 ∨ S.1 b = 104) ∧ 0 ≤ s32 (i + j) ∧ s32 (i + j) < S.2.1 b
section LWC
variable {L : Nat} {xs : Nat → Int32} {i b x m : Int} {V : Mem} {S : Shp} {N R : Mem → Shp → Prop}
theorem SCR.ck {j : Int} (h : SCR xs L b V S) (hL3 : L ≤ 3072) (i0 : 0 ≤ i) (i6 : i + 6 ≤ (L : Int)) (j0 : 0 ≤ j) (j5 : j ≤ 5) : CKj L b i j S := by
  obtain ⟨h1, h2, h3⟩ := h
  have e : s32 (i + j) = i + j := s32_id (by omega) (by omega)
  unfold CKj
  rw [e, h2]
  exact ⟨Or.inr h1, by omega, by omega⟩
theorem SCR.vl {j : Int} (h : SCR xs L b V S) (hL3 : L ≤ 3072) (i0 : 0 ≤ i) (i6 : i + 6 ≤ (L : Int)) (j0 : 0 ≤ j) (j5 : j ≤ 5) : V b (s32 (i + j)) = (xs (i + j).toNat).toInt := by
  have e : s32 (i + j) = i + j := s32_id (by omega) (by omega)
  have := h.2.2 (i + j).toNat
  rw [show (((i + j).toNat : Nat) : Int) = i + j from by omega] at this
  rw [e]
  exact this
theorem lw_home (hL3 : L ≤ 3072) (i0 : 0 ≤ i) (i6 : i + 6 ≤ (L : Int)) (hL : LST xs L i (10 * i) b x m V S) (nx : ∀ V2 S2, LST xs L (i + 6) (10 * i + 60) b x m V2 S2 → N V2 S2) : C_x_home 60 x (V b (s32 (i + 1))) (V b (s32 (i + 2))) V S (fun r1 V1 S1 => (CKj L b i 1 S1 ∧ (CKj L b i 2 S1 ∧ (C_m_home 60 m (V1 b (s32 (i + 1))) (V1 b (s32 (i + 2))) V1 S1 (fun r2 V2 S2 => (s32 r1 = s32 r2 → N V2 S2) ∧ (¬ s32 r1 = s32 r2 → R V2 S2)))))) := by
  have hs := hL.scr
  rw [hs.vl hL3 i0 i6 (j := 1) (by omega) (by omega), hs.vl hL3 i0 i6 (j := 2) (by omega) (by omega)]
  refine turn (d := 60) (t := 0) (y1 := 97) (n1 := 2) (k1 := 0) (y2 := 149) (n2 := 2) (k2 := 0) (c1 := 2) (m' := 10 * i + 60) (As := [(0, (xs (i + 1).toNat).toInt), (0, (xs (i + 2).toNat).toInt)]) rfl (by decide +kernel) (by decide +kernel) rfl rfl (intsB rfl) hL i0 (fun Vl Sl hI hF => ?_) (fun r V1 S1 hs1 hm => ?_)
  · by_cases hf : Vl 137 1 = 12
    · exact ⟨60000 + i, by omega, by omega, fun a h0 h1 => hF a h0, cmd_homeF (d := 55) (S := (Sl.1, Sl.2.1, 60000 + i)) hI.rz (by omega) (s32_x _) (s32_x _) hf⟩
    · have q1 := hI.1.2.2.1.1
      exact ⟨2000 + 10 * Vl 137 1, by omega, by omega, fun a h0 h1 => hI.2.1.2.1 a h0 (by omega), cmd_home (d := 55) (S := (Sl.1, Sl.2.1, 2000 + 10 * Vl 137 1)) hI.rz (by omega) (s32_x _) (s32_x _) rfl⟩
  · refine ⟨hs1.ck hL3 i0 i6 (by omega) (by omega), hs1.ck hL3 i0 i6 (by omega) (by omega), ?_⟩
    rw [hs1.vl hL3 i0 i6 (j := 1) (by omega) (by omega), hs1.vl hL3 i0 i6 (j := 2) (by omega) (by omega)]
    exact hm _ (fun V2 S2 hL2 => ⟨fun _ => nx V2 S2 hL2, fun hne => absurd rfl hne⟩)
theorem lw_month (hL3 : L ≤ 3072) (i0 : 0 ≤ i) (i6 : i + 6 ≤ (L : Int)) (hL : LST xs L i (10 * i) b x m V S) (nx : ∀ V2 S2, LST xs L (i + 6) (10 * i + 60) b x m V2 S2 → N V2 S2) : C_x_month 60 x (V b (s32 (i + 1))) (V b (s32 (i + 2))) (V b (s32 (i + 3))) V S (fun r1 V1 S1 => (CKj L b i 1 S1 ∧ (CKj L b i 2 S1 ∧ (CKj L b i 3 S1 ∧ (C_m_month 60 m (V1 b (s32 (i + 1))) (V1 b (s32 (i + 2))) (V1 b (s32 (i + 3))) V1 S1 (fun r2 V2 S2 => (s32 r1 = s32 r2 → N V2 S2) ∧ (¬ s32 r1 = s32 r2 → R V2 S2))))))) := by
  have hs := hL.scr
  rw [hs.vl hL3 i0 i6 (j := 1) (by omega) (by omega), hs.vl hL3 i0 i6 (j := 2) (by omega) (by omega), hs.vl hL3 i0 i6 (j := 3) (by omega) (by omega)]
  refine turn (d := 60) (t := 0) (y1 := 99) (n1 := 3) (k1 := 0) (y2 := 151) (n2 := 3) (k2 := 0) (c1 := 0) (m' := 10 * i + 60) (As := [(0, (xs (i + 1).toNat).toInt), (0, (xs (i + 2).toNat).toInt), (0, (xs (i + 3).toNat).toInt)]) rfl (by decide +kernel) (by decide +kernel) rfl rfl (intsB rfl) hL i0 (fun Vl Sl hI hF => ?_) (fun r V1 S1 hs1 hm => ?_)
  · exact ⟨60000 + i, by omega, by omega, fun a h0 h1 => hF a h0, cmd_month (d := 55) (S := (Sl.1, Sl.2.1, 60000 + i)) hI.rz (by omega) (s32_x _) (s32_x _) (s32_x _)⟩
  · refine ⟨hs1.ck hL3 i0 i6 (by omega) (by omega), hs1.ck hL3 i0 i6 (by omega) (by omega), hs1.ck hL3 i0 i6 (by omega) (by omega), ?_⟩
    rw [hs1.vl hL3 i0 i6 (j := 1) (by omega) (by omega), hs1.vl hL3 i0 i6 (j := 2) (by omega) (by omega), hs1.vl hL3 i0 i6 (j := 3) (by omega) (by omega)]
    exact hm _ (fun V2 S2 hL2 => ⟨fun _ => nx V2 S2 hL2, fun hne => absurd rfl hne⟩)
theorem lw_lamp (hL3 : L ≤ 3072) (i0 : 0 ≤ i) (i6 : i + 6 ≤ (L : Int)) (hL : LST xs L i (10 * i) b x m V S) (nx : ∀ V2 S2, LST xs L (i + 6) (10 * i + 60) b x m V2 S2 → N V2 S2) : C_x_lamp 60 x (V b (s32 (i + 1))) (V b (s32 (i + 2))) (V b (s32 (i + 3))) V S (fun r1 V1 S1 => (CKj L b i 1 S1 ∧ (CKj L b i 2 S1 ∧ (CKj L b i 3 S1 ∧ (C_m_lamp 60 m (V1 b (s32 (i + 1))) (V1 b (s32 (i + 2))) (V1 b (s32 (i + 3))) V1 S1 (fun r2 V2 S2 => (s32 r1 = s32 r2 → N V2 S2) ∧ (¬ s32 r1 = s32 r2 → R V2 S2))))))) := by
  have hs := hL.scr
  rw [hs.vl hL3 i0 i6 (j := 1) (by omega) (by omega), hs.vl hL3 i0 i6 (j := 2) (by omega) (by omega), hs.vl hL3 i0 i6 (j := 3) (by omega) (by omega)]
  refine turn (d := 60) (t := 0) (y1 := 102) (n1 := 3) (k1 := 0) (y2 := 153) (n2 := 3) (k2 := 0) (c1 := 6) (m' := 10 * i + 60) (As := [(0, (xs (i + 1).toNat).toInt), (0, (xs (i + 2).toNat).toInt), (0, (xs (i + 3).toNat).toInt)]) rfl (by decide +kernel) (by decide +kernel) rfl rfl (intsB rfl) hL i0 (fun Vl Sl hI hF => ?_) (fun r V1 S1 hs1 hm => ?_)
  · by_cases hf : Vl 137 2 = 20
    · exact ⟨60000 + i, by omega, by omega, fun a h0 h1 => hF a h0, cmd_lampF (d := 55) (S := (Sl.1, Sl.2.1, 60000 + i)) hI.rz (by omega) (s32_x _) (s32_x _) (s32_x _) hf⟩
    · have q1 := hI.1.2.2.1.2.1
      exact ⟨1000 + 10 * Vl 137 2, by omega, by omega, fun a h0 h1 => hI.2.1.1 a h0 (by omega), cmd_lamp (d := 55) (S := (Sl.1, Sl.2.1, 1000 + 10 * Vl 137 2)) hI.rz (by omega) (s32_x _) (s32_x _) (s32_x _) rfl (by omega)⟩
  · refine ⟨hs1.ck hL3 i0 i6 (by omega) (by omega), hs1.ck hL3 i0 i6 (by omega) (by omega), hs1.ck hL3 i0 i6 (by omega) (by omega), ?_⟩
    rw [hs1.vl hL3 i0 i6 (j := 1) (by omega) (by omega), hs1.vl hL3 i0 i6 (j := 2) (by omega) (by omega), hs1.vl hL3 i0 i6 (j := 3) (by omega) (by omega)]
    exact hm _ (fun V2 S2 hL2 => ⟨fun _ => nx V2 S2 hL2, fun hne => absurd rfl hne⟩)
theorem lw_lend (hL3 : L ≤ 3072) (i0 : 0 ≤ i) (i6 : i + 6 ≤ (L : Int)) (hL : LST xs L i (10 * i) b x m V S) (nx : ∀ V2 S2, LST xs L (i + 6) (10 * i + 60) b x m V2 S2 → N V2 S2) : C_x_lend 60 x (V b (s32 (i + 1))) (V b (s32 (i + 2))) V S (fun r1 V1 S1 => (CKj L b i 1 S1 ∧ (CKj L b i 2 S1 ∧ (C_m_lend 60 m (V1 b (s32 (i + 1))) (V1 b (s32 (i + 2))) V1 S1 (fun r2 V2 S2 => (s32 r1 = s32 r2 → N V2 S2) ∧ (¬ s32 r1 = s32 r2 → R V2 S2)))))) := by
  have hs := hL.scr
  rw [hs.vl hL3 i0 i6 (j := 1) (by omega) (by omega), hs.vl hL3 i0 i6 (j := 2) (by omega) (by omega)]
  refine turn (d := 60) (t := 0) (y1 := 103) (n1 := 2) (k1 := 0) (y2 := 154) (n2 := 2) (k2 := 0) (c1 := 0) (m' := 10 * i + 60) (As := [(0, (xs (i + 1).toNat).toInt), (0, (xs (i + 2).toNat).toInt)]) rfl (by decide +kernel) (by decide +kernel) rfl rfl (intsB rfl) hL i0 (fun Vl Sl hI hF => ?_) (fun r V1 S1 hs1 hm => ?_)
  · exact ⟨60000 + i, by omega, by omega, fun a h0 h1 => hF a h0, cmd_lend (d := 54) (S := (Sl.1, Sl.2.1, 60000 + i)) hI.rz (by omega) (by omega) (s32_x _) (s32_x _)⟩
  · refine ⟨hs1.ck hL3 i0 i6 (by omega) (by omega), hs1.ck hL3 i0 i6 (by omega) (by omega), ?_⟩
    rw [hs1.vl hL3 i0 i6 (j := 1) (by omega) (by omega), hs1.vl hL3 i0 i6 (j := 2) (by omega) (by omega)]
    exact hm _ (fun V2 S2 hL2 => ⟨fun _ => nx V2 S2 hL2, fun hne => absurd rfl hne⟩)
theorem lw_move (hL3 : L ≤ 3072) (i0 : 0 ≤ i) (i6 : i + 6 ≤ (L : Int)) (hL : LST xs L i (10 * i) b x m V S) (nx : ∀ V2 S2, LST xs L (i + 6) (10 * i + 60) b x m V2 S2 → N V2 S2) : C_x_move 60 x (V b (s32 (i + 1))) (V b (s32 (i + 2))) V S (fun r1 V1 S1 => (CKj L b i 1 S1 ∧ (CKj L b i 2 S1 ∧ (C_m_move 60 m (V1 b (s32 (i + 1))) (V1 b (s32 (i + 2))) V1 S1 (fun r2 V2 S2 => (s32 r1 = s32 r2 → N V2 S2) ∧ (¬ s32 r1 = s32 r2 → R V2 S2)))))) := by
  have hs := hL.scr
  rw [hs.vl hL3 i0 i6 (j := 1) (by omega) (by omega), hs.vl hL3 i0 i6 (j := 2) (by omega) (by omega)]
  refine turn (d := 60) (t := 0) (y1 := 105) (n1 := 2) (k1 := 0) (y2 := 159) (n2 := 2) (k2 := 0) (c1 := 0) (m' := 10 * i + 60) (As := [(0, (xs (i + 1).toNat).toInt), (0, (xs (i + 2).toNat).toInt)]) rfl (by decide +kernel) (by decide +kernel) rfl rfl (intsB rfl) hL i0 (fun Vl Sl hI hF => ?_) (fun r V1 S1 hs1 hm => ?_)
  · exact ⟨60000 + i, by omega, by omega, fun a h0 h1 => hF a h0, cmd_move (d := 40) (S := (Sl.1, Sl.2.1, 60000 + i)) hI.rz (by omega) (by omega) (s32_x _) (s32_x _)⟩
  · refine ⟨hs1.ck hL3 i0 i6 (by omega) (by omega), hs1.ck hL3 i0 i6 (by omega) (by omega), ?_⟩
    rw [hs1.vl hL3 i0 i6 (j := 1) (by omega) (by omega), hs1.vl hL3 i0 i6 (j := 2) (by omega) (by omega)]
    exact hm _ (fun V2 S2 hL2 => ⟨fun _ => nx V2 S2 hL2, fun hne => absurd rfl hne⟩)
theorem lw_of (hL3 : L ≤ 3072) (i0 : 0 ≤ i) (i6 : i + 6 ≤ (L : Int)) (hL : LST xs L i (10 * i) b x m V S) (nx : ∀ V2 S2, LST xs L (i + 6) (10 * i + 60) b x m V2 S2 → N V2 S2) : C_x_of 60 x (V b (s32 (i + 1))) (V b (s32 (i + 2))) V S (fun r1 V1 S1 => (CKj L b i 1 S1 ∧ (CKj L b i 2 S1 ∧ (C_m_of 60 m (V1 b (s32 (i + 1))) (V1 b (s32 (i + 2))) V1 S1 (fun r2 V2 S2 => (s32 (lcmpI r1 r2) = 0 → N V2 S2) ∧ (¬ s32 (lcmpI r1 r2) = 0 → R V2 S2)))))) := by
  have hs := hL.scr
  rw [hs.vl hL3 i0 i6 (j := 1) (by omega) (by omega), hs.vl hL3 i0 i6 (j := 2) (by omega) (by omega)]
  refine turn (d := 60) (t := 1) (y1 := 106) (n1 := 2) (k1 := 0) (y2 := 177) (n2 := 2) (k2 := 0) (c1 := 0) (m' := 10 * i + 60) (As := [(0, (xs (i + 1).toNat).toInt), (0, (xs (i + 2).toNat).toInt)]) rfl (by decide +kernel) (by decide +kernel) rfl rfl (intsB rfl) hL i0 (fun Vl Sl hI hF => ?_) (fun r V1 S1 hs1 hm => ?_)
  · exact ⟨60000 + i, by omega, by omega, fun a h0 h1 => hF a h0, cmd_of (d := 54) (S := (Sl.1, Sl.2.1, 60000 + i)) hI.rz (by omega) (s32_x _) (s32_x _)⟩
  · refine ⟨hs1.ck hL3 i0 i6 (by omega) (by omega), hs1.ck hL3 i0 i6 (by omega) (by omega), ?_⟩
    rw [hs1.vl hL3 i0 i6 (j := 1) (by omega) (by omega), hs1.vl hL3 i0 i6 (j := 2) (by omega) (by omega)]
    exact hm _ (fun V2 S2 hL2 => ⟨fun _ => nx V2 S2 hL2, fun hne => absurd (lcmp_rr r) hne⟩)
theorem lw_pass (hL3 : L ≤ 3072) (i0 : 0 ≤ i) (i6 : i + 6 ≤ (L : Int)) (hL : LST xs L i (10 * i) b x m V S) (nx : ∀ V2 S2, LST xs L (i + 6) (10 * i + 60) b x m V2 S2 → N V2 S2) : C_x_pass 60 x (V b (s32 (i + 1))) V S (fun r1 V1 S1 => (CKj L b i 1 S1 ∧ (C_m_pass 60 m (V1 b (s32 (i + 1))) V1 S1 (fun r2 V2 S2 => (s32 r1 = s32 r2 → N V2 S2) ∧ (¬ s32 r1 = s32 r2 → R V2 S2))))) := by
  have hs := hL.scr
  rw [hs.vl hL3 i0 i6 (j := 1) (by omega) (by omega)]
  refine turn (d := 60) (t := 0) (y1 := 107) (n1 := 1) (k1 := 0) (y2 := 178) (n2 := 1) (k2 := 0) (c1 := 0) (m' := 10 * i + 60) (As := [(0, (xs (i + 1).toNat).toInt)]) rfl (by decide +kernel) (by decide +kernel) rfl rfl (intsB rfl) hL i0 (fun Vl Sl hI hF => ?_) (fun r V1 S1 hs1 hm => ?_)
  · exact ⟨60000 + i, by omega, by omega, fun a h0 h1 => hF a h0, cmd_pass (d := 40) (S := (Sl.1, Sl.2.1, 60000 + i)) hI.rz (by omega) (s32_x _)⟩
  · refine ⟨hs1.ck hL3 i0 i6 (by omega) (by omega), ?_⟩
    rw [hs1.vl hL3 i0 i6 (j := 1) (by omega) (by omega)]
    exact hm _ (fun V2 S2 hL2 => ⟨fun _ => nx V2 S2 hL2, fun hne => absurd rfl hne⟩)
theorem lw_kind (hL3 : L ≤ 3072) (i0 : 0 ≤ i) (i6 : i + 6 ≤ (L : Int)) (hL : LST xs L i (10 * i) b x m V S) (nx : ∀ V2 S2, LST xs L (i + 6) (10 * i + 60) b x m V2 S2 → N V2 S2) : C_x_kind 60 x (V b (s32 (i + 1))) (V b (s32 (i + 2))) V S (fun r1 V1 S1 => (CKj L b i 1 S1 ∧ (CKj L b i 2 S1 ∧ (C_m_kind 60 m (V1 b (s32 (i + 1))) (V1 b (s32 (i + 2))) V1 S1 (fun r2 V2 S2 => (s32 r1 = s32 r2 → N V2 S2) ∧ (¬ s32 r1 = s32 r2 → R V2 S2)))))) := by
  have hs := hL.scr
  rw [hs.vl hL3 i0 i6 (j := 1) (by omega) (by omega), hs.vl hL3 i0 i6 (j := 2) (by omega) (by omega)]
  refine turn (d := 60) (t := 0) (y1 := 109) (n1 := 2) (k1 := 0) (y2 := 183) (n2 := 2) (k2 := 0) (c1 := 0) (m' := 10 * i + 60) (As := [(0, (xs (i + 1).toNat).toInt), (0, (xs (i + 2).toNat).toInt)]) rfl (by decide +kernel) (by decide +kernel) rfl rfl (intsB rfl) hL i0 (fun Vl Sl hI hF => ?_) (fun r V1 S1 hs1 hm => ?_)
  · exact ⟨60000 + i, by omega, by omega, fun a h0 h1 => hF a h0, cmd_kind (d := 52) (S := (Sl.1, Sl.2.1, 60000 + i)) hI.rz (by omega) (s32_x _) (s32_x _)⟩
  · refine ⟨hs1.ck hL3 i0 i6 (by omega) (by omega), hs1.ck hL3 i0 i6 (by omega) (by omega), ?_⟩
    rw [hs1.vl hL3 i0 i6 (j := 1) (by omega) (by omega), hs1.vl hL3 i0 i6 (j := 2) (by omega) (by omega)]
    exact hm _ (fun V2 S2 hL2 => ⟨fun _ => nx V2 S2 hL2, fun hne => absurd rfl hne⟩)
theorem lw_days (hL3 : L ≤ 3072) (i0 : 0 ≤ i) (i6 : i + 6 ≤ (L : Int)) (hL : LST xs L i (10 * i) b x m V S) (nx : ∀ V2 S2, LST xs L (i + 6) (10 * i + 60) b x m V2 S2 → N V2 S2) : C_x_days 60 x (V b (s32 (i + 1))) (V b (s32 (i + 2))) (V b (s32 (i + 3))) (V b (s32 (i + 4))) V S (fun r1 V1 S1 => (CKj L b i 1 S1 ∧ (CKj L b i 2 S1 ∧ (CKj L b i 3 S1 ∧ (CKj L b i 4 S1 ∧ (C_m_days 60 m (V1 b (s32 (i + 1))) (V1 b (s32 (i + 2))) (V1 b (s32 (i + 3))) (V1 b (s32 (i + 4))) V1 S1 (fun r2 V2 S2 => (s32 r1 = s32 r2 → N V2 S2) ∧ (¬ s32 r1 = s32 r2 → R V2 S2)))))))) := by
  have hs := hL.scr
  rw [hs.vl hL3 i0 i6 (j := 1) (by omega) (by omega), hs.vl hL3 i0 i6 (j := 2) (by omega) (by omega), hs.vl hL3 i0 i6 (j := 3) (by omega) (by omega), hs.vl hL3 i0 i6 (j := 4) (by omega) (by omega)]
  refine turn (d := 60) (t := 0) (y1 := 111) (n1 := 4) (k1 := 0) (y2 := 185) (n2 := 4) (k2 := 0) (c1 := 0) (m' := 10 * i + 60) (As := [(0, (xs (i + 1).toNat).toInt), (0, (xs (i + 2).toNat).toInt), (0, (xs (i + 3).toNat).toInt), (0, (xs (i + 4).toNat).toInt)]) rfl (by decide +kernel) (by decide +kernel) rfl rfl (intsB rfl) hL i0 (fun Vl Sl hI hF => ?_) (fun r V1 S1 hs1 hm => ?_)
  · exact ⟨60000 + i, by omega, by omega, fun a h0 h1 => hF a h0, cmd_days (d := 52) (S := (Sl.1, Sl.2.1, 60000 + i)) hI.rz (by omega) (s32_x _) (s32_x _) (s32_x _) (s32_x _)⟩
  · refine ⟨hs1.ck hL3 i0 i6 (by omega) (by omega), hs1.ck hL3 i0 i6 (by omega) (by omega), hs1.ck hL3 i0 i6 (by omega) (by omega), hs1.ck hL3 i0 i6 (by omega) (by omega), ?_⟩
    rw [hs1.vl hL3 i0 i6 (j := 1) (by omega) (by omega), hs1.vl hL3 i0 i6 (j := 2) (by omega) (by omega), hs1.vl hL3 i0 i6 (j := 3) (by omega) (by omega), hs1.vl hL3 i0 i6 (j := 4) (by omega) (by omega)]
    exact hm _ (fun V2 S2 hL2 => ⟨fun _ => nx V2 S2 hL2, fun hne => absurd rfl hne⟩)
theorem lw_feed (hL3 : L ≤ 3072) (i0 : 0 ≤ i) (i6 : i + 6 ≤ (L : Int)) (hL : LST xs L i (10 * i) b x m V S) (nx : ∀ V2 S2, LST xs L (i + 6) (10 * i + 60) b x m V2 S2 → N V2 S2) : C_x_feed 60 x (V b (s32 (i + 1))) (V b (s32 (i + 2))) V S (fun r1 V1 S1 => (CKj L b i 1 S1 ∧ (CKj L b i 2 S1 ∧ (C_m_feed 60 m (V1 b (s32 (i + 1))) (V1 b (s32 (i + 2))) V1 S1 (fun r2 V2 S2 => (s32 r1 = s32 r2 → N V2 S2) ∧ (¬ s32 r1 = s32 r2 → R V2 S2)))))) := by
  have hs := hL.scr
  rw [hs.vl hL3 i0 i6 (j := 1) (by omega) (by omega), hs.vl hL3 i0 i6 (j := 2) (by omega) (by omega)]
  refine turn (d := 60) (t := 0) (y1 := 112) (n1 := 2) (k1 := 0) (y2 := 187) (n2 := 2) (k2 := 0) (c1 := 0) (m' := 10 * i + 60) (As := [(0, (xs (i + 1).toNat).toInt), (0, (xs (i + 2).toNat).toInt)]) rfl (by decide +kernel) (by decide +kernel) rfl rfl (intsB rfl) hL i0 (fun Vl Sl hI hF => ?_) (fun r V1 S1 hs1 hm => ?_)
  · exact ⟨60000 + i, by omega, by omega, fun a h0 h1 => hF a h0, cmd_feed (d := 55) (S := (Sl.1, Sl.2.1, 60000 + i)) hI.rz (by omega) (s32_x _) (s32_x _)⟩
  · refine ⟨hs1.ck hL3 i0 i6 (by omega) (by omega), hs1.ck hL3 i0 i6 (by omega) (by omega), ?_⟩
    rw [hs1.vl hL3 i0 i6 (j := 1) (by omega) (by omega), hs1.vl hL3 i0 i6 (j := 2) (by omega) (by omega)]
    exact hm _ (fun V2 S2 hL2 => ⟨fun _ => nx V2 S2 hL2, fun hne => absurd rfl hne⟩)
theorem lw_text (hL3 : L ≤ 3072) (i0 : 0 ≤ i) (i6 : i + 6 ≤ (L : Int)) (hL : LST xs L i (10 * i) b x m V S) (nx : ∀ V2 S2, LST xs L (i + 6) (10 * i + 60) b x m V2 S2 → N V2 S2) : C_x_text 60 x (V b (s32 (i + 1))) V S (fun r1 V1 S1 => (CKj L b i 1 S1 ∧ (C_m_text 60 m (V1 b (s32 (i + 1))) V1 S1 (fun r2 V2 S2 => (s32 r1 = s32 r2 → N V2 S2) ∧ (¬ s32 r1 = s32 r2 → R V2 S2))))) := by
  have hs := hL.scr
  rw [hs.vl hL3 i0 i6 (j := 1) (by omega) (by omega)]
  refine turn (d := 60) (t := 0) (y1 := 113) (n1 := 1) (k1 := 0) (y2 := 188) (n2 := 1) (k2 := 0) (c1 := 5) (m' := 10 * i + 60) (As := [(0, (xs (i + 1).toNat).toInt)]) rfl (by decide +kernel) (by decide +kernel) rfl rfl (intsB rfl) hL i0 (fun Vl Sl hI hF => ?_) (fun r V1 S1 hs1 hm => ?_)
  · have q0 := hI.1.n10
    by_cases hf : Vl 137 24 = 10
    · exact ⟨60000 + i, by omega, by omega, fun a h0 h1 => hF a h0, cmd_textF (d := 20) (S := (Sl.1, Sl.2.1, 60000 + i)) hI.rz (by omega) (s32_x _) hf⟩
    · have hT : TA (Vl 137 24 + 1) = 108 + 5000 * (Vl 137 24 + 1) := rfl
      exact ⟨TA (Vl 137 24 + 1), by omega, by omega, fun a h0 h1 => hI.2.1.2.2 (Vl 137 24 + 1) a (by omega) (by omega) h0 (by omega), cmd_text (d := 20) (S := (Sl.1, Sl.2.1, TA (Vl 137 24 + 1))) hI.rz (by omega) (s32_x _) rfl⟩
  · refine ⟨hs1.ck hL3 i0 i6 (by omega) (by omega), ?_⟩
    rw [hs1.vl hL3 i0 i6 (j := 1) (by omega) (by omega)]
    exact hm _ (fun V2 S2 hL2 => ⟨fun _ => nx V2 S2 hL2, fun hne => absurd rfl hne⟩)
theorem lw_force (hL3 : L ≤ 3072) (i0 : 0 ≤ i) (i6 : i + 6 ≤ (L : Int)) (hL : LST xs L i (10 * i) b x m V S) (nx : ∀ V2 S2, LST xs L (i + 6) (10 * i + 60) b x m V2 S2 → N V2 S2) : C_x_force 60 x (V b (s32 (i + 1))) (V b (s32 (i + 2))) (V b (s32 (i + 3))) (V b (s32 (i + 4))) V S (fun r1 V1 S1 => (CKj L b i 1 S1 ∧ (CKj L b i 2 S1 ∧ (CKj L b i 3 S1 ∧ (CKj L b i 4 S1 ∧ (C_m_force 60 m (V1 b (s32 (i + 1))) (V1 b (s32 (i + 2))) (V1 b (s32 (i + 3))) (V1 b (s32 (i + 4))) V1 S1 (fun r2 V2 S2 => (s32 r1 = s32 r2 → N V2 S2) ∧ (¬ s32 r1 = s32 r2 → R V2 S2)))))))) := by
  have hs := hL.scr
  rw [hs.vl hL3 i0 i6 (j := 1) (by omega) (by omega), hs.vl hL3 i0 i6 (j := 2) (by omega) (by omega), hs.vl hL3 i0 i6 (j := 3) (by omega) (by omega), hs.vl hL3 i0 i6 (j := 4) (by omega) (by omega)]
  refine turn (d := 60) (t := 0) (y1 := 115) (n1 := 4) (k1 := 0) (y2 := 190) (n2 := 4) (k2 := 0) (c1 := 0) (m' := 10 * i + 60) (As := [(0, (xs (i + 1).toNat).toInt), (0, (xs (i + 2).toNat).toInt), (0, (xs (i + 3).toNat).toInt), (0, (xs (i + 4).toNat).toInt)]) rfl (by decide +kernel) (by decide +kernel) rfl rfl (intsB rfl) hL i0 (fun Vl Sl hI hF => ?_) (fun r V1 S1 hs1 hm => ?_)
  · exact ⟨60000 + i, by omega, by omega, fun a h0 h1 => hF a h0, cmd_force (d := 40) (S := (Sl.1, Sl.2.1, 60000 + i)) hI.rz (by omega) (s32_x _) (s32_x _) (s32_x _) (s32_x _)⟩
  · refine ⟨hs1.ck hL3 i0 i6 (by omega) (by omega), hs1.ck hL3 i0 i6 (by omega) (by omega), hs1.ck hL3 i0 i6 (by omega) (by omega), hs1.ck hL3 i0 i6 (by omega) (by omega), ?_⟩
    rw [hs1.vl hL3 i0 i6 (j := 1) (by omega) (by omega), hs1.vl hL3 i0 i6 (j := 2) (by omega) (by omega), hs1.vl hL3 i0 i6 (j := 3) (by omega) (by omega), hs1.vl hL3 i0 i6 (j := 4) (by omega) (by omega)]
    exact hm _ (fun V2 S2 hL2 => ⟨fun _ => nx V2 S2 hL2, fun hne => absurd rfl hne⟩)
theorem lw_why (hL3 : L ≤ 3072) (i0 : 0 ≤ i) (i6 : i + 6 ≤ (L : Int)) (hL : LST xs L i (10 * i) b x m V S) (nx : ∀ V2 S2, LST xs L (i + 6) (10 * i + 60) b x m V2 S2 → N V2 S2) : C_x_why 60 x (V b (s32 (i + 1))) (V b (s32 (i + 2))) (V b (s32 (i + 3))) V S (fun r1 V1 S1 => (CKj L b i 1 S1 ∧ (CKj L b i 2 S1 ∧ (CKj L b i 3 S1 ∧ (C_m_why 60 m (V1 b (s32 (i + 1))) (V1 b (s32 (i + 2))) (V1 b (s32 (i + 3))) V1 S1 (fun r2 V2 S2 => (s32 r1 = s32 r2 → N V2 S2) ∧ (¬ s32 r1 = s32 r2 → R V2 S2))))))) := by
  have hs := hL.scr
  rw [hs.vl hL3 i0 i6 (j := 1) (by omega) (by omega), hs.vl hL3 i0 i6 (j := 2) (by omega) (by omega), hs.vl hL3 i0 i6 (j := 3) (by omega) (by omega)]
  refine turn (d := 60) (t := 0) (y1 := 117) (n1 := 3) (k1 := 0) (y2 := 192) (n2 := 3) (k2 := 0) (c1 := 0) (m' := 10 * i + 60) (As := [(0, (xs (i + 1).toNat).toInt), (0, (xs (i + 2).toNat).toInt), (0, (xs (i + 3).toNat).toInt)]) rfl (by decide +kernel) (by decide +kernel) rfl rfl (intsB rfl) hL i0 (fun Vl Sl hI hF => ?_) (fun r V1 S1 hs1 hm => ?_)
  · exact ⟨60000 + i, by omega, by omega, fun a h0 h1 => hF a h0, cmd_why (d := 48) (S := (Sl.1, Sl.2.1, 60000 + i)) hI.rz (by omega) (s32_x _) (s32_x _) (s32_x _)⟩
  · refine ⟨hs1.ck hL3 i0 i6 (by omega) (by omega), hs1.ck hL3 i0 i6 (by omega) (by omega), hs1.ck hL3 i0 i6 (by omega) (by omega), ?_⟩
    rw [hs1.vl hL3 i0 i6 (j := 1) (by omega) (by omega), hs1.vl hL3 i0 i6 (j := 2) (by omega) (by omega), hs1.vl hL3 i0 i6 (j := 3) (by omega) (by omega)]
    exact hm _ (fun V2 S2 hL2 => ⟨fun _ => nx V2 S2 hL2, fun hne => absurd rfl hne⟩)
theorem lw_code (hL3 : L ≤ 3072) (i0 : 0 ≤ i) (i6 : i + 6 ≤ (L : Int)) (hL : LST xs L i (10 * i) b x m V S) (nx : ∀ V2 S2, LST xs L (i + 6) (10 * i + 60) b x m V2 S2 → N V2 S2) : C_x_code 60 x (V b (s32 (i + 1))) (V b (s32 (i + 2))) (V b (s32 (i + 3))) V S (fun r1 V1 S1 => (CKj L b i 1 S1 ∧ (CKj L b i 2 S1 ∧ (CKj L b i 3 S1 ∧ (C_m_code 60 m (V1 b (s32 (i + 1))) (V1 b (s32 (i + 2))) (V1 b (s32 (i + 3))) V1 S1 (fun r2 V2 S2 => (s32 r1 = s32 r2 → N V2 S2) ∧ (¬ s32 r1 = s32 r2 → R V2 S2))))))) := by
  have hs := hL.scr
  rw [hs.vl hL3 i0 i6 (j := 1) (by omega) (by omega), hs.vl hL3 i0 i6 (j := 2) (by omega) (by omega), hs.vl hL3 i0 i6 (j := 3) (by omega) (by omega)]
  refine turn (d := 60) (t := 0) (y1 := 118) (n1 := 3) (k1 := 0) (y2 := 193) (n2 := 3) (k2 := 0) (c1 := 0) (m' := 10 * i + 60) (As := [(0, (xs (i + 1).toNat).toInt), (0, (xs (i + 2).toNat).toInt), (0, (xs (i + 3).toNat).toInt)]) rfl (by decide +kernel) (by decide +kernel) rfl rfl (intsB rfl) hL i0 (fun Vl Sl hI hF => ?_) (fun r V1 S1 hs1 hm => ?_)
  · exact ⟨60000 + i, by omega, by omega, fun a h0 h1 => hF a h0, cmd_code (d := 54) (S := (Sl.1, Sl.2.1, 60000 + i)) hI.rz (by omega) (s32_x _) (s32_x _) (s32_x _)⟩
  · refine ⟨hs1.ck hL3 i0 i6 (by omega) (by omega), hs1.ck hL3 i0 i6 (by omega) (by omega), hs1.ck hL3 i0 i6 (by omega) (by omega), ?_⟩
    rw [hs1.vl hL3 i0 i6 (j := 1) (by omega) (by omega), hs1.vl hL3 i0 i6 (j := 2) (by omega) (by omega), hs1.vl hL3 i0 i6 (j := 3) (by omega) (by omega)]
    exact hm _ (fun V2 S2 hL2 => ⟨fun _ => nx V2 S2 hL2, fun hne => absurd rfl hne⟩)
theorem lw_sold (hL3 : L ≤ 3072) (i0 : 0 ≤ i) (i6 : i + 6 ≤ (L : Int)) (hL : LST xs L i (10 * i) b x m V S) (nx : ∀ V2 S2, LST xs L (i + 6) (10 * i + 60) b x m V2 S2 → N V2 S2) : C_x_sold 60 x (V b (s32 (i + 1))) (V b (s32 (i + 2))) V S (fun r1 V1 S1 => (CKj L b i 1 S1 ∧ (CKj L b i 2 S1 ∧ (C_m_sold 60 m (V1 b (s32 (i + 1))) (V1 b (s32 (i + 2))) V1 S1 (fun r2 V2 S2 => (s32 r1 = s32 r2 → N V2 S2) ∧ (¬ s32 r1 = s32 r2 → R V2 S2)))))) := by
  have hs := hL.scr
  rw [hs.vl hL3 i0 i6 (j := 1) (by omega) (by omega), hs.vl hL3 i0 i6 (j := 2) (by omega) (by omega)]
  refine turn (d := 60) (t := 0) (y1 := 119) (n1 := 2) (k1 := 0) (y2 := 195) (n2 := 2) (k2 := 0) (c1 := 0) (m' := 10 * i + 60) (As := [(0, (xs (i + 1).toNat).toInt), (0, (xs (i + 2).toNat).toInt)]) rfl (by decide +kernel) (by decide +kernel) rfl rfl (intsB rfl) hL i0 (fun Vl Sl hI hF => ?_) (fun r V1 S1 hs1 hm => ?_)
  · exact ⟨60000 + i, by omega, by omega, fun a h0 h1 => hF a h0, cmd_sold (d := 40) (S := (Sl.1, Sl.2.1, 60000 + i)) hI.rz (by omega) (s32_x _) (s32_x _)⟩
  · refine ⟨hs1.ck hL3 i0 i6 (by omega) (by omega), hs1.ck hL3 i0 i6 (by omega) (by omega), ?_⟩
    rw [hs1.vl hL3 i0 i6 (j := 1) (by omega) (by omega), hs1.vl hL3 i0 i6 (j := 2) (by omega) (by omega)]
    exact hm _ (fun V2 S2 hL2 => ⟨fun _ => nx V2 S2 hL2, fun hne => absurd rfl hne⟩)
theorem lw_take (hL3 : L ≤ 3072) (i0 : 0 ≤ i) (i6 : i + 6 ≤ (L : Int)) (hL : LST xs L i (10 * i) b x m V S) (nx : ∀ V2 S2, LST xs L (i + 6) (10 * i + 60) b x m V2 S2 → N V2 S2) : C_x_take 60 x (V b (s32 (i + 1))) (V b (s32 (i + 2))) V S (fun r1 V1 S1 => (CKj L b i 1 S1 ∧ (CKj L b i 2 S1 ∧ (C_m_take 60 m (V1 b (s32 (i + 1))) (V1 b (s32 (i + 2))) V1 S1 (fun r2 V2 S2 => (s32 r1 = s32 r2 → N V2 S2) ∧ (¬ s32 r1 = s32 r2 → R V2 S2)))))) := by
  have hs := hL.scr
  rw [hs.vl hL3 i0 i6 (j := 1) (by omega) (by omega), hs.vl hL3 i0 i6 (j := 2) (by omega) (by omega)]
  refine turn (d := 60) (t := 0) (y1 := 120) (n1 := 2) (k1 := 0) (y2 := 196) (n2 := 2) (k2 := 0) (c1 := 0) (m' := 10 * i + 60) (As := [(0, (xs (i + 1).toNat).toInt), (0, (xs (i + 2).toNat).toInt)]) rfl (by decide +kernel) (by decide +kernel) rfl rfl (intsB rfl) hL i0 (fun Vl Sl hI hF => ?_) (fun r V1 S1 hs1 hm => ?_)
  · exact ⟨60000 + i, by omega, by omega, fun a h0 h1 => hF a h0, cmd_take (d := 52) (S := (Sl.1, Sl.2.1, 60000 + i)) hI.rz (by omega) (by omega) (s32_x _) (s32_x _)⟩
  · refine ⟨hs1.ck hL3 i0 i6 (by omega) (by omega), hs1.ck hL3 i0 i6 (by omega) (by omega), ?_⟩
    rw [hs1.vl hL3 i0 i6 (j := 1) (by omega) (by omega), hs1.vl hL3 i0 i6 (j := 2) (by omega) (by omega)]
    exact hm _ (fun V2 S2 hL2 => ⟨fun _ => nx V2 S2 hL2, fun hne => absurd rfl hne⟩)
theorem lw_agree (hL3 : L ≤ 3072) (i0 : 0 ≤ i) (i6 : i + 6 ≤ (L : Int)) (hL : LST xs L i (10 * i) b x m V S) (nx : ∀ V2 S2, LST xs L (i + 6) (10 * i + 60) b x m V2 S2 → N V2 S2) : C_x_agree 60 x (V b (s32 (i + 1))) V S (fun r1 V1 S1 => (CKj L b i 1 S1 ∧ (C_m_agree 60 m (V1 b (s32 (i + 1))) V1 S1 (fun r2 V2 S2 => (s32 r1 = s32 r2 → N V2 S2) ∧ (¬ s32 r1 = s32 r2 → R V2 S2))))) := by
  have hs := hL.scr
  rw [hs.vl hL3 i0 i6 (j := 1) (by omega) (by omega)]
  refine turn (d := 60) (t := 0) (y1 := 121) (n1 := 1) (k1 := 0) (y2 := 198) (n2 := 1) (k2 := 0) (c1 := 0) (m' := 10 * i + 60) (As := [(0, (xs (i + 1).toNat).toInt)]) rfl (by decide +kernel) (by decide +kernel) rfl rfl (intsB rfl) hL i0 (fun Vl Sl hI hF => ?_) (fun r V1 S1 hs1 hm => ?_)
  · exact ⟨60000 + i, by omega, by omega, fun a h0 h1 => hF a h0, cmd_agree (d := 52) (S := (Sl.1, Sl.2.1, 60000 + i)) hI.rz (by omega) (s32_x _)⟩
  · refine ⟨hs1.ck hL3 i0 i6 (by omega) (by omega), ?_⟩
    rw [hs1.vl hL3 i0 i6 (j := 1) (by omega) (by omega)]
    exact hm _ (fun V2 S2 hL2 => ⟨fun _ => nx V2 S2 hL2, fun hne => absurd rfl hne⟩)
theorem lw_drift (hL3 : L ≤ 3072) (i0 : 0 ≤ i) (i6 : i + 6 ≤ (L : Int)) (hL : LST xs L i (10 * i) b x m V S) (nx : ∀ V2 S2, LST xs L (i + 6) (10 * i + 60) b x m V2 S2 → N V2 S2) : C_x_drift 60 x (V b (s32 (i + 1))) (V b (s32 (i + 2))) V S (fun r1 V1 S1 => (CKj L b i 1 S1 ∧ (CKj L b i 2 S1 ∧ (C_m_drift 60 m (V1 b (s32 (i + 1))) (V1 b (s32 (i + 2))) V1 S1 (fun r2 V2 S2 => (s32 (lcmpI r1 r2) = 0 → N V2 S2) ∧ (¬ s32 (lcmpI r1 r2) = 0 → R V2 S2)))))) := by
  have hs := hL.scr
  rw [hs.vl hL3 i0 i6 (j := 1) (by omega) (by omega), hs.vl hL3 i0 i6 (j := 2) (by omega) (by omega)]
  refine turn (d := 60) (t := 1) (y1 := 122) (n1 := 2) (k1 := 0) (y2 := 199) (n2 := 2) (k2 := 0) (c1 := 0) (m' := 10 * i + 60) (As := [(0, (xs (i + 1).toNat).toInt), (0, (xs (i + 2).toNat).toInt)]) rfl (by decide +kernel) (by decide +kernel) rfl rfl (intsB rfl) hL i0 (fun Vl Sl hI hF => ?_) (fun r V1 S1 hs1 hm => ?_)
  · exact ⟨60000 + i, by omega, by omega, fun a h0 h1 => hF a h0, cmd_drift (d := 54) (S := (Sl.1, Sl.2.1, 60000 + i)) hI.rz (by omega) (s32_x _) (s32_x _)⟩
  · refine ⟨hs1.ck hL3 i0 i6 (by omega) (by omega), hs1.ck hL3 i0 i6 (by omega) (by omega), ?_⟩
    rw [hs1.vl hL3 i0 i6 (j := 1) (by omega) (by omega), hs1.vl hL3 i0 i6 (j := 2) (by omega) (by omega)]
    exact hm _ (fun V2 S2 hL2 => ⟨fun _ => nx V2 S2 hL2, fun hne => absurd (lcmp_rr r) hne⟩)
theorem lw_paid (hL3 : L ≤ 3072) (i0 : 0 ≤ i) (i6 : i + 6 ≤ (L : Int)) (hL : LST xs L i (10 * i) b x m V S) (nx : ∀ V2 S2, LST xs L (i + 6) (10 * i + 60) b x m V2 S2 → N V2 S2) : C_x_paid 60 x (V b (s32 (i + 1))) (V b (s32 (i + 2))) V S (fun r1 V1 S1 => (CKj L b i 1 S1 ∧ (CKj L b i 2 S1 ∧ (C_m_paid 60 m (V1 b (s32 (i + 1))) (V1 b (s32 (i + 2))) V1 S1 (fun r2 V2 S2 => (s32 r1 = s32 r2 → N V2 S2) ∧ (¬ s32 r1 = s32 r2 → R V2 S2)))))) := by
  have hs := hL.scr
  rw [hs.vl hL3 i0 i6 (j := 1) (by omega) (by omega), hs.vl hL3 i0 i6 (j := 2) (by omega) (by omega)]
  refine turn (d := 60) (t := 0) (y1 := 123) (n1 := 2) (k1 := 0) (y2 := 201) (n2 := 2) (k2 := 0) (c1 := 0) (m' := 10 * i + 60) (As := [(0, (xs (i + 1).toNat).toInt), (0, (xs (i + 2).toNat).toInt)]) rfl (by decide +kernel) (by decide +kernel) rfl rfl (intsB rfl) hL i0 (fun Vl Sl hI hF => ?_) (fun r V1 S1 hs1 hm => ?_)
  · exact ⟨60000 + i, by omega, by omega, fun a h0 h1 => hF a h0, cmd_paid (d := 54) (S := (Sl.1, Sl.2.1, 60000 + i)) hI.rz (by omega) (by omega) (s32_x _) (s32_x _)⟩
  · refine ⟨hs1.ck hL3 i0 i6 (by omega) (by omega), hs1.ck hL3 i0 i6 (by omega) (by omega), ?_⟩
    rw [hs1.vl hL3 i0 i6 (j := 1) (by omega) (by omega), hs1.vl hL3 i0 i6 (j := 2) (by omega) (by omega)]
    exact hm _ (fun V2 S2 hL2 => ⟨fun _ => nx V2 S2 hL2, fun hne => absurd rfl hne⟩)
theorem lw_roll (hL3 : L ≤ 3072) (i0 : 0 ≤ i) (i6 : i + 6 ≤ (L : Int)) (hL : LST xs L i (10 * i) b x m V S) (nx : ∀ V2 S2, LST xs L (i + 6) (10 * i + 60) b x m V2 S2 → N V2 S2) : C_x_roll 60 x (V b (s32 (i + 1))) (V b (s32 (i + 2))) V S (fun r1 V1 S1 => (CKj L b i 1 S1 ∧ (CKj L b i 2 S1 ∧ (C_m_roll 60 m (V1 b (s32 (i + 1))) (V1 b (s32 (i + 2))) V1 S1 (fun r2 V2 S2 => (s32 r1 = s32 r2 → N V2 S2) ∧ (¬ s32 r1 = s32 r2 → R V2 S2)))))) := by
  have hs := hL.scr
  rw [hs.vl hL3 i0 i6 (j := 1) (by omega) (by omega), hs.vl hL3 i0 i6 (j := 2) (by omega) (by omega)]
  refine turn (d := 60) (t := 0) (y1 := 124) (n1 := 2) (k1 := 0) (y2 := 202) (n2 := 2) (k2 := 0) (c1 := 0) (m' := 10 * i + 60) (As := [(0, (xs (i + 1).toNat).toInt), (0, (xs (i + 2).toNat).toInt)]) rfl (by decide +kernel) (by decide +kernel) rfl rfl (intsB rfl) hL i0 (fun Vl Sl hI hF => ?_) (fun r V1 S1 hs1 hm => ?_)
  · exact ⟨60000 + i, by omega, by omega, fun a h0 h1 => hF a h0, cmd_roll (d := 54) (S := (Sl.1, Sl.2.1, 60000 + i)) hI.rz (by omega) (by omega) (s32_x _) (s32_x _)⟩
  · refine ⟨hs1.ck hL3 i0 i6 (by omega) (by omega), hs1.ck hL3 i0 i6 (by omega) (by omega), ?_⟩
    rw [hs1.vl hL3 i0 i6 (j := 1) (by omega) (by omega), hs1.vl hL3 i0 i6 (j := 2) (by omega) (by omega)]
    exact hm _ (fun V2 S2 hL2 => ⟨fun _ => nx V2 S2 hL2, fun hne => absurd rfl hne⟩)
theorem lw_can (hL3 : L ≤ 3072) (i0 : 0 ≤ i) (i6 : i + 6 ≤ (L : Int)) (hL : LST xs L i (10 * i) b x m V S) (nx : ∀ V2 S2, LST xs L (i + 6) (10 * i + 60) b x m V2 S2 → N V2 S2) : C_x_can 60 x (V b (s32 (i + 1))) (V b (s32 (i + 2))) (V b (s32 (i + 3))) V S (fun r1 V1 S1 => (CKj L b i 1 S1 ∧ (CKj L b i 2 S1 ∧ (CKj L b i 3 S1 ∧ (C_m_can 60 m (V1 b (s32 (i + 1))) (V1 b (s32 (i + 2))) (V1 b (s32 (i + 3))) V1 S1 (fun r2 V2 S2 => (s32 r1 = s32 r2 → N V2 S2) ∧ (¬ s32 r1 = s32 r2 → R V2 S2))))))) := by
  have hs := hL.scr
  rw [hs.vl hL3 i0 i6 (j := 1) (by omega) (by omega), hs.vl hL3 i0 i6 (j := 2) (by omega) (by omega), hs.vl hL3 i0 i6 (j := 3) (by omega) (by omega)]
  refine turn (d := 60) (t := 0) (y1 := 125) (n1 := 3) (k1 := 0) (y2 := 203) (n2 := 3) (k2 := 0) (c1 := 0) (m' := 10 * i + 60) (As := [(0, (xs (i + 1).toNat).toInt), (0, (xs (i + 2).toNat).toInt), (0, (xs (i + 3).toNat).toInt)]) rfl (by decide +kernel) (by decide +kernel) rfl rfl (intsB rfl) hL i0 (fun Vl Sl hI hF => ?_) (fun r V1 S1 hs1 hm => ?_)
  · exact ⟨60000 + i, by omega, by omega, fun a h0 h1 => hF a h0, cmd_can (d := 52) (S := (Sl.1, Sl.2.1, 60000 + i)) hI.rz (by omega) (s32_x _) (s32_x _) (s32_x _)⟩
  · refine ⟨hs1.ck hL3 i0 i6 (by omega) (by omega), hs1.ck hL3 i0 i6 (by omega) (by omega), hs1.ck hL3 i0 i6 (by omega) (by omega), ?_⟩
    rw [hs1.vl hL3 i0 i6 (j := 1) (by omega) (by omega), hs1.vl hL3 i0 i6 (j := 2) (by omega) (by omega), hs1.vl hL3 i0 i6 (j := 3) (by omega) (by omega)]
    exact hm _ (fun V2 S2 hL2 => ⟨fun _ => nx V2 S2 hL2, fun hne => absurd rfl hne⟩)
theorem lw_best (hL3 : L ≤ 3072) (i0 : 0 ≤ i) (i6 : i + 6 ≤ (L : Int)) (hL : LST xs L i (10 * i) b x m V S) (nx : ∀ V2 S2, LST xs L (i + 6) (10 * i + 60) b x m V2 S2 → N V2 S2) : C_x_best 60 x (V b (s32 (i + 1))) (V b (s32 (i + 2))) (V b (s32 (i + 3))) V S (fun r1 V1 S1 => (CKj L b i 1 S1 ∧ (CKj L b i 2 S1 ∧ (CKj L b i 3 S1 ∧ (C_m_best 60 m (V1 b (s32 (i + 1))) (V1 b (s32 (i + 2))) (V1 b (s32 (i + 3))) V1 S1 (fun r2 V2 S2 => (s32 r1 = s32 r2 → N V2 S2) ∧ (¬ s32 r1 = s32 r2 → R V2 S2))))))) := by
  have hs := hL.scr
  rw [hs.vl hL3 i0 i6 (j := 1) (by omega) (by omega), hs.vl hL3 i0 i6 (j := 2) (by omega) (by omega), hs.vl hL3 i0 i6 (j := 3) (by omega) (by omega)]
  refine turn (d := 60) (t := 0) (y1 := 126) (n1 := 3) (k1 := 0) (y2 := 205) (n2 := 3) (k2 := 0) (c1 := 0) (m' := 10 * i + 60) (As := [(0, (xs (i + 1).toNat).toInt), (0, (xs (i + 2).toNat).toInt), (0, (xs (i + 3).toNat).toInt)]) rfl (by decide +kernel) (by decide +kernel) rfl rfl (intsB rfl) hL i0 (fun Vl Sl hI hF => ?_) (fun r V1 S1 hs1 hm => ?_)
  · exact ⟨60000 + i, by omega, by omega, fun a h0 h1 => hF a h0, cmd_best (d := 46) (S := (Sl.1, Sl.2.1, 60000 + i)) hI.rz (by omega) (s32_x _) (s32_x _) (s32_x _)⟩
  · refine ⟨hs1.ck hL3 i0 i6 (by omega) (by omega), hs1.ck hL3 i0 i6 (by omega) (by omega), hs1.ck hL3 i0 i6 (by omega) (by omega), ?_⟩
    rw [hs1.vl hL3 i0 i6 (j := 1) (by omega) (by omega), hs1.vl hL3 i0 i6 (j := 2) (by omega) (by omega), hs1.vl hL3 i0 i6 (j := 3) (by omega) (by omega)]
    exact hm _ (fun V2 S2 hL2 => ⟨fun _ => nx V2 S2 hL2, fun hne => absurd rfl hne⟩)
theorem lw_broke (hL3 : L ≤ 3072) (i0 : 0 ≤ i) (i6 : i + 6 ≤ (L : Int)) (hL : LST xs L i (10 * i) b x m V S) (nx : ∀ V2 S2, LST xs L (i + 6) (10 * i + 60) b x m V2 S2 → N V2 S2) : C_x_broke 60 x (V b (s32 (i + 1))) (V b (s32 (i + 2))) (V b (s32 (i + 3))) V S (fun r1 V1 S1 => (CKj L b i 1 S1 ∧ (CKj L b i 2 S1 ∧ (CKj L b i 3 S1 ∧ (C_m_broke 60 m (V1 b (s32 (i + 1))) (V1 b (s32 (i + 2))) (V1 b (s32 (i + 3))) V1 S1 (fun r2 V2 S2 => (s32 r1 = s32 r2 → N V2 S2) ∧ (¬ s32 r1 = s32 r2 → R V2 S2))))))) := by
  have hs := hL.scr
  rw [hs.vl hL3 i0 i6 (j := 1) (by omega) (by omega), hs.vl hL3 i0 i6 (j := 2) (by omega) (by omega), hs.vl hL3 i0 i6 (j := 3) (by omega) (by omega)]
  refine turn (d := 60) (t := 0) (y1 := 127) (n1 := 3) (k1 := 0) (y2 := 209) (n2 := 3) (k2 := 0) (c1 := 0) (m' := 10 * i + 60) (As := [(0, (xs (i + 1).toNat).toInt), (0, (xs (i + 2).toNat).toInt), (0, (xs (i + 3).toNat).toInt)]) rfl (by decide +kernel) (by decide +kernel) rfl rfl (intsB rfl) hL i0 (fun Vl Sl hI hF => ?_) (fun r V1 S1 hs1 hm => ?_)
  · exact ⟨60000 + i, by omega, by omega, fun a h0 h1 => hF a h0, cmd_broke (d := 55) (S := (Sl.1, Sl.2.1, 60000 + i)) hI.rz (by omega) (s32_x _) (s32_x _) (s32_x _)⟩
  · refine ⟨hs1.ck hL3 i0 i6 (by omega) (by omega), hs1.ck hL3 i0 i6 (by omega) (by omega), hs1.ck hL3 i0 i6 (by omega) (by omega), ?_⟩
    rw [hs1.vl hL3 i0 i6 (j := 1) (by omega) (by omega), hs1.vl hL3 i0 i6 (j := 2) (by omega) (by omega), hs1.vl hL3 i0 i6 (j := 3) (by omega) (by omega)]
    exact hm _ (fun V2 S2 hL2 => ⟨fun _ => nx V2 S2 hL2, fun hne => absurd rfl hne⟩)
theorem lw_cause (hL3 : L ≤ 3072) (i0 : 0 ≤ i) (i6 : i + 6 ≤ (L : Int)) (hL : LST xs L i (10 * i) b x m V S) (nx : ∀ V2 S2, LST xs L (i + 6) (10 * i + 60) b x m V2 S2 → N V2 S2) : C_x_cause 60 x  V S (fun r1 V1 S1 => (C_m_cause 60 m  V1 S1 (fun r2 V2 S2 => (s32 r1 = s32 r2 → N V2 S2) ∧ (¬ s32 r1 = s32 r2 → R V2 S2)))) := by
  refine turn (d := 60) (t := 0) (y1 := 128) (n1 := 0) (k1 := 0) (y2 := 210) (n2 := 0) (k2 := 0) (c1 := 0) (m' := 10 * i + 60) (As := []) rfl (by decide +kernel) (by decide +kernel) rfl rfl (intsB rfl) hL i0 (fun Vl Sl hI hF => ?_) (fun r V1 S1 hs1 hm => ?_)
  · exact ⟨60000 + i, by omega, by omega, fun a h0 h1 => hF a h0, cmd_cause (d := 40) (S := (Sl.1, Sl.2.1, 60000 + i)) hI.rz (by omega)⟩
  · exact hm _ (fun V2 S2 hL2 => ⟨fun _ => nx V2 S2 hL2, fun hne => absurd rfl hne⟩)
theorem lw_sell (hL3 : L ≤ 3072) (i0 : 0 ≤ i) (i6 : i + 6 ≤ (L : Int)) (hL : LST xs L i (10 * i) b x m V S) (nx : ∀ V2 S2, LST xs L (i + 6) (10 * i + 60) b x m V2 S2 → N V2 S2) : C_x_sell 60 x (V b (s32 (i + 1))) (V b (s32 (i + 2))) (V b (s32 (i + 3))) (V b (s32 (i + 4))) V S (fun r1 V1 S1 => (CKj L b i 1 S1 ∧ (CKj L b i 2 S1 ∧ (CKj L b i 3 S1 ∧ (CKj L b i 4 S1 ∧ (C_m_sell 60 m (V1 b (s32 (i + 1))) (V1 b (s32 (i + 2))) (V1 b (s32 (i + 3))) (V1 b (s32 (i + 4))) V1 S1 (fun r2 V2 S2 => (s32 r1 = s32 r2 → N V2 S2) ∧ (¬ s32 r1 = s32 r2 → R V2 S2)))))))) := by
  have hs := hL.scr
  rw [hs.vl hL3 i0 i6 (j := 1) (by omega) (by omega), hs.vl hL3 i0 i6 (j := 2) (by omega) (by omega), hs.vl hL3 i0 i6 (j := 3) (by omega) (by omega), hs.vl hL3 i0 i6 (j := 4) (by omega) (by omega)]
  refine turn (d := 60) (t := 0) (y1 := 132) (n1 := 4) (k1 := 0) (y2 := 211) (n2 := 4) (k2 := 0) (c1 := 0) (m' := 10 * i + 60) (As := [(0, (xs (i + 1).toNat).toInt), (0, (xs (i + 2).toNat).toInt), (0, (xs (i + 3).toNat).toInt), (0, (xs (i + 4).toNat).toInt)]) rfl (by decide +kernel) (by decide +kernel) rfl rfl (intsB rfl) hL i0 (fun Vl Sl hI hF => ?_) (fun r V1 S1 hs1 hm => ?_)
  · exact ⟨60000 + i, by omega, by omega, fun a h0 h1 => hF a h0, cmd_sell (d := 54) (S := (Sl.1, Sl.2.1, 60000 + i)) hI.rz (by omega) (s32_x _) (s32_x _) (s32_x _) (s32_x _)⟩
  · refine ⟨hs1.ck hL3 i0 i6 (by omega) (by omega), hs1.ck hL3 i0 i6 (by omega) (by omega), hs1.ck hL3 i0 i6 (by omega) (by omega), hs1.ck hL3 i0 i6 (by omega) (by omega), ?_⟩
    rw [hs1.vl hL3 i0 i6 (j := 1) (by omega) (by omega), hs1.vl hL3 i0 i6 (j := 2) (by omega) (by omega), hs1.vl hL3 i0 i6 (j := 3) (by omega) (by omega), hs1.vl hL3 i0 i6 (j := 4) (by omega) (by omega)]
    exact hm _ (fun V2 S2 hL2 => ⟨fun _ => nx V2 S2 hL2, fun hne => absurd rfl hne⟩)
theorem lw_whose (hL3 : L ≤ 3072) (i0 : 0 ≤ i) (i6 : i + 6 ≤ (L : Int)) (hL : LST xs L i (10 * i) b x m V S) (nx : ∀ V2 S2, LST xs L (i + 6) (10 * i + 60) b x m V2 S2 → N V2 S2) : C_x_whose 60 x (V b (s32 (i + 1))) (V b (s32 (i + 2))) V S (fun r1 V1 S1 => (CKj L b i 1 S1 ∧ (CKj L b i 2 S1 ∧ (C_m_whose 60 m (V1 b (s32 (i + 1))) (V1 b (s32 (i + 2))) V1 S1 (fun r2 V2 S2 => (s32 r1 = s32 r2 → N V2 S2) ∧ (¬ s32 r1 = s32 r2 → R V2 S2)))))) := by
  have hs := hL.scr
  rw [hs.vl hL3 i0 i6 (j := 1) (by omega) (by omega), hs.vl hL3 i0 i6 (j := 2) (by omega) (by omega)]
  refine turn (d := 60) (t := 0) (y1 := 133) (n1 := 2) (k1 := 0) (y2 := 212) (n2 := 2) (k2 := 0) (c1 := 0) (m' := 10 * i + 60) (As := [(0, (xs (i + 1).toNat).toInt), (0, (xs (i + 2).toNat).toInt)]) rfl (by decide +kernel) (by decide +kernel) rfl rfl (intsB rfl) hL i0 (fun Vl Sl hI hF => ?_) (fun r V1 S1 hs1 hm => ?_)
  · exact ⟨60000 + i, by omega, by omega, fun a h0 h1 => hF a h0, cmd_whose (d := 54) (S := (Sl.1, Sl.2.1, 60000 + i)) hI.rz (by omega) (s32_x _) (s32_x _)⟩
  · refine ⟨hs1.ck hL3 i0 i6 (by omega) (by omega), hs1.ck hL3 i0 i6 (by omega) (by omega), ?_⟩
    rw [hs1.vl hL3 i0 i6 (j := 1) (by omega) (by omega), hs1.vl hL3 i0 i6 (j := 2) (by omega) (by omega)]
    exact hm _ (fun V2 S2 hL2 => ⟨fun _ => nx V2 S2 hL2, fun hne => absurd rfl hne⟩)
theorem lw_tried (hL3 : L ≤ 3072) (i0 : 0 ≤ i) (i6 : i + 6 ≤ (L : Int)) (hL : LST xs L i (10 * i) b x m V S) (nx : ∀ V2 S2, LST xs L (i + 6) (10 * i + 60) b x m V2 S2 → N V2 S2) : C_x_tried 60 x (V b (s32 (i + 1))) (V b (s32 (i + 2))) V S (fun r1 V1 S1 => (CKj L b i 1 S1 ∧ (CKj L b i 2 S1 ∧ (C_m_tried 60 m (V1 b (s32 (i + 1))) (V1 b (s32 (i + 2))) V1 S1 (fun r2 V2 S2 => (s32 r1 = s32 r2 → N V2 S2) ∧ (¬ s32 r1 = s32 r2 → R V2 S2)))))) := by
  have hs := hL.scr
  rw [hs.vl hL3 i0 i6 (j := 1) (by omega) (by omega), hs.vl hL3 i0 i6 (j := 2) (by omega) (by omega)]
  refine turn (d := 60) (t := 0) (y1 := 134) (n1 := 2) (k1 := 0) (y2 := 213) (n2 := 2) (k2 := 0) (c1 := 0) (m' := 10 * i + 60) (As := [(0, (xs (i + 1).toNat).toInt), (0, (xs (i + 2).toNat).toInt)]) rfl (by decide +kernel) (by decide +kernel) rfl rfl (intsB rfl) hL i0 (fun Vl Sl hI hF => ?_) (fun r V1 S1 hs1 hm => ?_)
  · exact ⟨60000 + i, by omega, by omega, fun a h0 h1 => hF a h0, cmd_tried (d := 20) (S := (Sl.1, Sl.2.1, 60000 + i)) hI.rz (by omega) (by omega) (s32_x _) (s32_x _)⟩
  · refine ⟨hs1.ck hL3 i0 i6 (by omega) (by omega), hs1.ck hL3 i0 i6 (by omega) (by omega), ?_⟩
    rw [hs1.vl hL3 i0 i6 (j := 1) (by omega) (by omega), hs1.vl hL3 i0 i6 (j := 2) (by omega) (by omega)]
    exact hm _ (fun V2 S2 hL2 => ⟨fun _ => nx V2 S2 hL2, fun hne => absurd rfl hne⟩)
theorem lw_hear (hL3 : L ≤ 3072) (i0 : 0 ≤ i) (i6 : i + 6 ≤ (L : Int)) (hL : LST xs L i (10 * i) b x m V S) (nx : ∀ V2 S2, LST xs L (i + 6) (10 * i + 60) b x m V2 S2 → N V2 S2) : C_x_hear 60 x (V b (s32 (i + 1))) (V b (s32 (i + 2))) (V b (s32 (i + 3))) V S (fun r1 V1 S1 => (CKj L b i 1 S1 ∧ (CKj L b i 2 S1 ∧ (CKj L b i 3 S1 ∧ (C_m_hear 60 m (V1 b (s32 (i + 1))) (V1 b (s32 (i + 2))) (V1 b (s32 (i + 3))) V1 S1 (fun r2 V2 S2 => (s32 r1 = s32 r2 → N V2 S2) ∧ (¬ s32 r1 = s32 r2 → R V2 S2))))))) := by
  have hs := hL.scr
  rw [hs.vl hL3 i0 i6 (j := 1) (by omega) (by omega), hs.vl hL3 i0 i6 (j := 2) (by omega) (by omega), hs.vl hL3 i0 i6 (j := 3) (by omega) (by omega)]
  refine turn (d := 60) (t := 0) (y1 := 136) (n1 := 3) (k1 := 0) (y2 := 216) (n2 := 3) (k2 := 0) (c1 := 0) (m' := 10 * i + 60) (As := [(0, (xs (i + 1).toNat).toInt), (0, (xs (i + 2).toNat).toInt), (0, (xs (i + 3).toNat).toInt)]) rfl (by decide +kernel) (by decide +kernel) rfl rfl (intsB rfl) hL i0 (fun Vl Sl hI hF => ?_) (fun r V1 S1 hs1 hm => ?_)
  · exact ⟨60000 + i, by omega, by omega, fun a h0 h1 => hF a h0, cmd_hear (d := 54) (S := (Sl.1, Sl.2.1, 60000 + i)) hI.rz (by omega) (s32_x _) (s32_x _) (s32_x _)⟩
  · refine ⟨hs1.ck hL3 i0 i6 (by omega) (by omega), hs1.ck hL3 i0 i6 (by omega) (by omega), hs1.ck hL3 i0 i6 (by omega) (by omega), ?_⟩
    rw [hs1.vl hL3 i0 i6 (j := 1) (by omega) (by omega), hs1.vl hL3 i0 i6 (j := 2) (by omega) (by omega), hs1.vl hL3 i0 i6 (j := 3) (by omega) (by omega)]
    exact hm _ (fun V2 S2 hL2 => ⟨fun _ => nx V2 S2 hL2, fun hne => absurd rfl hne⟩)
theorem lw_known (hL3 : L ≤ 3072) (i0 : 0 ≤ i) (i6 : i + 6 ≤ (L : Int)) (hL : LST xs L i (10 * i) b x m V S) (nx : ∀ V2 S2, LST xs L (i + 6) (10 * i + 60) b x m V2 S2 → N V2 S2) : C_x_known 60 x (V b (s32 (i + 1))) (V b (s32 (i + 2))) V S (fun r1 V1 S1 => (CKj L b i 1 S1 ∧ (CKj L b i 2 S1 ∧ (C_m_known 60 m (V1 b (s32 (i + 1))) (V1 b (s32 (i + 2))) V1 S1 (fun r2 V2 S2 => (s32 r1 = s32 r2 → N V2 S2) ∧ (¬ s32 r1 = s32 r2 → R V2 S2)))))) := by
  have hs := hL.scr
  rw [hs.vl hL3 i0 i6 (j := 1) (by omega) (by omega), hs.vl hL3 i0 i6 (j := 2) (by omega) (by omega)]
  refine turn (d := 60) (t := 0) (y1 := 137) (n1 := 2) (k1 := 0) (y2 := 217) (n2 := 2) (k2 := 0) (c1 := 0) (m' := 10 * i + 60) (As := [(0, (xs (i + 1).toNat).toInt), (0, (xs (i + 2).toNat).toInt)]) rfl (by decide +kernel) (by decide +kernel) rfl rfl (intsB rfl) hL i0 (fun Vl Sl hI hF => ?_) (fun r V1 S1 hs1 hm => ?_)
  · exact ⟨60000 + i, by omega, by omega, fun a h0 h1 => hF a h0, cmd_known (d := 54) (S := (Sl.1, Sl.2.1, 60000 + i)) hI.rz (by omega) (s32_x _) (s32_x _)⟩
  · refine ⟨hs1.ck hL3 i0 i6 (by omega) (by omega), hs1.ck hL3 i0 i6 (by omega) (by omega), ?_⟩
    rw [hs1.vl hL3 i0 i6 (j := 1) (by omega) (by omega), hs1.vl hL3 i0 i6 (j := 2) (by omega) (by omega)]
    exact hm _ (fun V2 S2 hL2 => ⟨fun _ => nx V2 S2 hL2, fun hne => absurd rfl hne⟩)
theorem lw_act (hL3 : L ≤ 3072) (i0 : 0 ≤ i) (i6 : i + 6 ≤ (L : Int)) (hL : LST xs L i (10 * i) b x m V S) (nx : ∀ V2 S2, LST xs L (i + 6) (10 * i + 60) b x m V2 S2 → N V2 S2) : C_x_act 60 x (V b (s32 (i + 1))) (V b (s32 (i + 2))) (V b (s32 (i + 3))) (V b (s32 (i + 4))) V S (fun r1 V1 S1 => (CKj L b i 1 S1 ∧ (CKj L b i 2 S1 ∧ (CKj L b i 3 S1 ∧ (CKj L b i 4 S1 ∧ (C_m_act 60 m (V1 b (s32 (i + 1))) (V1 b (s32 (i + 2))) (V1 b (s32 (i + 3))) (V1 b (s32 (i + 4))) V1 S1 (fun r2 V2 S2 => (s32 r1 = s32 r2 → N V2 S2) ∧ (¬ s32 r1 = s32 r2 → R V2 S2)))))))) := by
  have hs := hL.scr
  rw [hs.vl hL3 i0 i6 (j := 1) (by omega) (by omega), hs.vl hL3 i0 i6 (j := 2) (by omega) (by omega), hs.vl hL3 i0 i6 (j := 3) (by omega) (by omega), hs.vl hL3 i0 i6 (j := 4) (by omega) (by omega)]
  refine turn (d := 60) (t := 0) (y1 := 138) (n1 := 4) (k1 := 0) (y2 := 218) (n2 := 4) (k2 := 0) (c1 := 0) (m' := 10 * i + 60) (As := [(0, (xs (i + 1).toNat).toInt), (0, (xs (i + 2).toNat).toInt), (0, (xs (i + 3).toNat).toInt), (0, (xs (i + 4).toNat).toInt)]) rfl (by decide +kernel) (by decide +kernel) rfl rfl (intsB rfl) hL i0 (fun Vl Sl hI hF => ?_) (fun r V1 S1 hs1 hm => ?_)
  · exact ⟨60000 + i, by omega, by omega, fun a h0 h1 => hF a h0, cmd_act (d := 40) (S := (Sl.1, Sl.2.1, 60000 + i)) hI.rz (by omega) (s32_x _) (s32_x _) (s32_x _)⟩
  · refine ⟨hs1.ck hL3 i0 i6 (by omega) (by omega), hs1.ck hL3 i0 i6 (by omega) (by omega), hs1.ck hL3 i0 i6 (by omega) (by omega), hs1.ck hL3 i0 i6 (by omega) (by omega), ?_⟩
    rw [hs1.vl hL3 i0 i6 (j := 1) (by omega) (by omega), hs1.vl hL3 i0 i6 (j := 2) (by omega) (by omega), hs1.vl hL3 i0 i6 (j := 3) (by omega) (by omega), hs1.vl hL3 i0 i6 (j := 4) (by omega) (by omega)]
    exact hm _ (fun V2 S2 hL2 => ⟨fun _ => nx V2 S2 hL2, fun hne => absurd rfl hne⟩)
theorem lw_trace (hL3 : L ≤ 3072) (i0 : 0 ≤ i) (i6 : i + 6 ≤ (L : Int)) (hL : LST xs L i (10 * i) b x m V S) (nx : ∀ V2 S2, LST xs L (i + 6) (10 * i + 60) b x m V2 S2 → N V2 S2) : C_x_trace 60 x (V b (s32 (i + 1))) V S (fun r1 V1 S1 => (CKj L b i 1 S1 ∧ (C_m_trace 60 m (V1 b (s32 (i + 1))) V1 S1 (fun r2 V2 S2 => (s32 r1 = s32 r2 → N V2 S2) ∧ (¬ s32 r1 = s32 r2 → R V2 S2))))) := by
  have hs := hL.scr
  rw [hs.vl hL3 i0 i6 (j := 1) (by omega) (by omega)]
  refine turn (d := 60) (t := 0) (y1 := 139) (n1 := 1) (k1 := 0) (y2 := 228) (n2 := 1) (k2 := 0) (c1 := 0) (m' := 10 * i + 60) (As := [(0, (xs (i + 1).toNat).toInt)]) rfl (by decide +kernel) (by decide +kernel) rfl rfl (intsB rfl) hL i0 (fun Vl Sl hI hF => ?_) (fun r V1 S1 hs1 hm => ?_)
  · exact ⟨60000 + i, by omega, by omega, fun a h0 h1 => hF a h0, cmd_trace (d := 55) (S := (Sl.1, Sl.2.1, 60000 + i)) hI.rz (by omega) (s32_x _)⟩
  · refine ⟨hs1.ck hL3 i0 i6 (by omega) (by omega), ?_⟩
    rw [hs1.vl hL3 i0 i6 (j := 1) (by omega) (by omega)]
    exact hm _ (fun V2 S2 hL2 => ⟨fun _ => nx V2 S2 hL2, fun hne => absurd rfl hne⟩)
theorem lw_taken (hL3 : L ≤ 3072) (i0 : 0 ≤ i) (i6 : i + 6 ≤ (L : Int)) (hL : LST xs L i (10 * i) b x m V S) (nx : ∀ V2 S2, LST xs L (i + 6) (10 * i + 60) b x m V2 S2 → N V2 S2) : C_x_taken 60 x (V b (s32 (i + 1))) (V b (s32 (i + 2))) (V b (s32 (i + 3))) V S (fun r1 V1 S1 => (CKj L b i 1 S1 ∧ (CKj L b i 2 S1 ∧ (CKj L b i 3 S1 ∧ (C_m_taken 60 m (V1 b (s32 (i + 1))) (V1 b (s32 (i + 2))) (V1 b (s32 (i + 3))) V1 S1 (fun r2 V2 S2 => (s32 r1 = s32 r2 → N V2 S2) ∧ (¬ s32 r1 = s32 r2 → R V2 S2))))))) := by
  have hs := hL.scr
  rw [hs.vl hL3 i0 i6 (j := 1) (by omega) (by omega), hs.vl hL3 i0 i6 (j := 2) (by omega) (by omega), hs.vl hL3 i0 i6 (j := 3) (by omega) (by omega)]
  refine turn (d := 60) (t := 0) (y1 := 140) (n1 := 3) (k1 := 0) (y2 := 229) (n2 := 3) (k2 := 0) (c1 := 0) (m' := 10 * i + 60) (As := [(0, (xs (i + 1).toNat).toInt), (0, (xs (i + 2).toNat).toInt), (0, (xs (i + 3).toNat).toInt)]) rfl (by decide +kernel) (by decide +kernel) rfl rfl (intsB rfl) hL i0 (fun Vl Sl hI hF => ?_) (fun r V1 S1 hs1 hm => ?_)
  · exact ⟨60000 + i, by omega, by omega, fun a h0 h1 => hF a h0, cmd_taken (d := 52) (S := (Sl.1, Sl.2.1, 60000 + i)) hI.rz (by omega) (s32_x _) (s32_x _) (s32_x _)⟩
  · refine ⟨hs1.ck hL3 i0 i6 (by omega) (by omega), hs1.ck hL3 i0 i6 (by omega) (by omega), hs1.ck hL3 i0 i6 (by omega) (by omega), ?_⟩
    rw [hs1.vl hL3 i0 i6 (j := 1) (by omega) (by omega), hs1.vl hL3 i0 i6 (j := 2) (by omega) (by omega), hs1.vl hL3 i0 i6 (j := 3) (by omega) (by omega)]
    exact hm _ (fun V2 S2 hL2 => ⟨fun _ => nx V2 S2 hL2, fun hne => absurd rfl hne⟩)
theorem lw_list (hL3 : L ≤ 3072) (i0 : 0 ≤ i) (i6 : i + 6 ≤ (L : Int)) (hL : LST xs L i (10 * i) b x m V S) (nx : ∀ V2 S2, LST xs L (i + 6) (10 * i + 60) b x m V2 S2 → N V2 S2) : C_x_list 60 x (V b (s32 (i + 1))) (V b (s32 (i + 2))) (V b (s32 (i + 3))) V S (fun r1 V1 S1 => (CKj L b i 1 S1 ∧ (CKj L b i 2 S1 ∧ (CKj L b i 3 S1 ∧ (C_m_list 60 m (V1 b (s32 (i + 1))) (V1 b (s32 (i + 2))) (V1 b (s32 (i + 3))) V1 S1 (fun r2 V2 S2 => (s32 (lcmpI r1 r2) = 0 → N V2 S2) ∧ (¬ s32 (lcmpI r1 r2) = 0 → R V2 S2))))))) := by
  have hs := hL.scr
  rw [hs.vl hL3 i0 i6 (j := 1) (by omega) (by omega), hs.vl hL3 i0 i6 (j := 2) (by omega) (by omega), hs.vl hL3 i0 i6 (j := 3) (by omega) (by omega)]
  refine turn (d := 60) (t := 1) (y1 := 141) (n1 := 3) (k1 := 0) (y2 := 231) (n2 := 3) (k2 := 0) (c1 := 0) (m' := 10 * i + 60) (As := [(0, (xs (i + 1).toNat).toInt), (0, (xs (i + 2).toNat).toInt), (0, (xs (i + 3).toNat).toInt)]) rfl (by decide +kernel) (by decide +kernel) rfl rfl (intsB rfl) hL i0 (fun Vl Sl hI hF => ?_) (fun r V1 S1 hs1 hm => ?_)
  · exact ⟨60000 + i, by omega, by omega, fun a h0 h1 => hF a h0, cmd_list (d := 52) (S := (Sl.1, Sl.2.1, 60000 + i)) hI.rz (by omega) (by omega) (s32_x _) (s32_x _) (s32_x _)⟩
  · refine ⟨hs1.ck hL3 i0 i6 (by omega) (by omega), hs1.ck hL3 i0 i6 (by omega) (by omega), hs1.ck hL3 i0 i6 (by omega) (by omega), ?_⟩
    rw [hs1.vl hL3 i0 i6 (j := 1) (by omega) (by omega), hs1.vl hL3 i0 i6 (j := 2) (by omega) (by omega), hs1.vl hL3 i0 i6 (j := 3) (by omega) (by omega)]
    exact hm _ (fun V2 S2 hL2 => ⟨fun _ => nx V2 S2 hL2, fun hne => absurd (lcmp_rr r) hne⟩)
theorem lw_count (hL3 : L ≤ 3072) (i0 : 0 ≤ i) (i6 : i + 6 ≤ (L : Int)) (hL : LST xs L i (10 * i) b x m V S) (nx : ∀ V2 S2, LST xs L (i + 6) (10 * i + 60) b x m V2 S2 → N V2 S2) : C_x_count 60 x (V b (s32 (i + 1))) V S (fun r1 V1 S1 => (CKj L b i 1 S1 ∧ (C_m_count 60 m (V1 b (s32 (i + 1))) V1 S1 (fun r2 V2 S2 => (s32 r1 = s32 r2 → N V2 S2) ∧ (¬ s32 r1 = s32 r2 → R V2 S2))))) := by
  have hs := hL.scr
  rw [hs.vl hL3 i0 i6 (j := 1) (by omega) (by omega)]
  refine turn (d := 60) (t := 0) (y1 := 143) (n1 := 1) (k1 := 0) (y2 := 230) (n2 := 1) (k2 := 0) (c1 := 0) (m' := 10 * i + 60) (As := [(0, (xs (i + 1).toNat).toInt)]) rfl (by decide +kernel) (by decide +kernel) rfl rfl (intsB rfl) hL i0 (fun Vl Sl hI hF => ?_) (fun r V1 S1 hs1 hm => ?_)
  · exact ⟨60000 + i, by omega, by omega, fun a h0 h1 => hF a h0, cmd_count (d := 55) (S := (Sl.1, Sl.2.1, 60000 + i)) hI.rz (by omega) (s32_x _)⟩
  · refine ⟨hs1.ck hL3 i0 i6 (by omega) (by omega), ?_⟩
    rw [hs1.vl hL3 i0 i6 (j := 1) (by omega) (by omega)]
    exact hm _ (fun V2 S2 hL2 => ⟨fun _ => nx V2 S2 hL2, fun hne => absurd rfl hne⟩)
theorem lw_tape (hL3 : L ≤ 3072) (i0 : 0 ≤ i) (i6 : i + 6 ≤ (L : Int)) (hL : LST xs L i (10 * i) b x m V S) (nx : ∀ V2 S2, LST xs L (i + 6) (10 * i + 60) b x m V2 S2 → N V2 S2) : C_x_tape 60 x (V b (s32 (i + 1))) (V b (s32 (i + 2))) (V b (s32 (i + 3))) V S (fun r1 V1 S1 => (CKj L b i 1 S1 ∧ (CKj L b i 2 S1 ∧ (CKj L b i 3 S1 ∧ (C_m_tape 60 m (V1 b (s32 (i + 1))) (V1 b (s32 (i + 2))) (V1 b (s32 (i + 3))) V1 S1 (fun r2 V2 S2 => (s32 r1 = s32 r2 → N V2 S2) ∧ (¬ s32 r1 = s32 r2 → R V2 S2))))))) := by
  have hs := hL.scr
  rw [hs.vl hL3 i0 i6 (j := 1) (by omega) (by omega), hs.vl hL3 i0 i6 (j := 2) (by omega) (by omega), hs.vl hL3 i0 i6 (j := 3) (by omega) (by omega)]
  refine turn (d := 60) (t := 0) (y1 := 144) (n1 := 3) (k1 := 0) (y2 := 233) (n2 := 3) (k2 := 0) (c1 := 0) (m' := 10 * i + 60) (As := [(0, (xs (i + 1).toNat).toInt), (0, (xs (i + 2).toNat).toInt), (0, (xs (i + 3).toNat).toInt)]) rfl (by decide +kernel) (by decide +kernel) rfl rfl (intsB rfl) hL i0 (fun Vl Sl hI hF => ?_) (fun r V1 S1 hs1 hm => ?_)
  · exact ⟨60000 + i, by omega, by omega, fun a h0 h1 => hF a h0, cmd_tape (d := 55) (S := (Sl.1, Sl.2.1, 60000 + i)) hI.rz (by omega) (s32_x _) (s32_x _) (s32_x _)⟩
  · refine ⟨hs1.ck hL3 i0 i6 (by omega) (by omega), hs1.ck hL3 i0 i6 (by omega) (by omega), hs1.ck hL3 i0 i6 (by omega) (by omega), ?_⟩
    rw [hs1.vl hL3 i0 i6 (j := 1) (by omega) (by omega), hs1.vl hL3 i0 i6 (j := 2) (by omega) (by omega), hs1.vl hL3 i0 i6 (j := 3) (by omega) (by omega)]
    exact hm _ (fun V2 S2 hL2 => ⟨fun _ => nx V2 S2 hL2, fun hne => absurd rfl hne⟩)
theorem lw_item (hL3 : L ≤ 3072) (i0 : 0 ≤ i) (i6 : i + 6 ≤ (L : Int)) (hL : LST xs L i (10 * i) b x m V S) (nx : ∀ V2 S2, LST xs L (i + 6) (10 * i + 60) b x m V2 S2 → N V2 S2) : C_x_item 60 x (V b (s32 (i + 1))) (V b (s32 (i + 2))) (lorI (lshlI (s32 (V b (s32 (i + 3)))) 32) (landI (s32 (V b (s32 (i + 4)))) 4294967295)) V S (fun r1 V1 S1 => (CKj L b i 1 S1 ∧ (CKj L b i 2 S1 ∧ (CKj L b i 3 S1 ∧ (CKj L b i 4 S1 ∧ (C_m_item 60 m (V1 b (s32 (i + 1))) (V1 b (s32 (i + 2))) (lorI (lshlI (s32 (V1 b (s32 (i + 3)))) 32) (landI (s32 (V1 b (s32 (i + 4)))) 4294967295)) V1 S1 (fun r2 V2 S2 => (s32 r1 = s32 r2 → N V2 S2) ∧ (¬ s32 r1 = s32 r2 → R V2 S2)))))))) := by
  have hs := hL.scr
  rw [hs.vl hL3 i0 i6 (j := 1) (by omega) (by omega), hs.vl hL3 i0 i6 (j := 2) (by omega) (by omega), hs.vl hL3 i0 i6 (j := 3) (by omega) (by omega), hs.vl hL3 i0 i6 (j := 4) (by omega) (by omega)]
  refine turn (d := 60) (t := 0) (y1 := 145) (n1 := 3) (k1 := 0) (y2 := 234) (n2 := 3) (k2 := 0) (c1 := 0) (m' := 10 * i + 60) (As := [(0, (xs (i + 1).toNat).toInt), (0, (xs (i + 2).toNat).toInt), (1, lorI (lshlI (s32 (xs (i + 3).toNat).toInt) 32) (landI (s32 (xs (i + 4).toNat).toInt) 4294967295))]) rfl (by decide +kernel) (by decide +kernel) rfl rfl (intsB rfl) hL i0 (fun Vl Sl hI hF => ?_) (fun r V1 S1 hs1 hm => ?_)
  · exact ⟨60000 + i, by omega, by omega, fun a h0 h1 => hF a h0, cmd_item (d := 55) (S := (Sl.1, Sl.2.1, 60000 + i)) hI.rz (by omega) (s32_x _) (s32_x _)⟩
  · refine ⟨hs1.ck hL3 i0 i6 (by omega) (by omega), hs1.ck hL3 i0 i6 (by omega) (by omega), hs1.ck hL3 i0 i6 (by omega) (by omega), hs1.ck hL3 i0 i6 (by omega) (by omega), ?_⟩
    rw [hs1.vl hL3 i0 i6 (j := 1) (by omega) (by omega), hs1.vl hL3 i0 i6 (j := 2) (by omega) (by omega), hs1.vl hL3 i0 i6 (j := 3) (by omega) (by omega), hs1.vl hL3 i0 i6 (j := 4) (by omega) (by omega)]
    exact hm _ (fun V2 S2 hL2 => ⟨fun _ => nx V2 S2 hL2, fun hne => absurd rfl hne⟩)
theorem lw_read (hL3 : L ≤ 3072) (i0 : 0 ≤ i) (i6 : i + 6 ≤ (L : Int)) (hL : LST xs L i (10 * i) b x m V S) (nx : ∀ V2 S2, LST xs L (i + 6) (10 * i + 60) b x m V2 S2 → N V2 S2) : C_x_read 60 x (V b (s32 (i + 1))) (V b (s32 (i + 2))) V S (fun r1 V1 S1 => (CKj L b i 1 S1 ∧ (CKj L b i 2 S1 ∧ (C_m_read 60 m (V1 b (s32 (i + 1))) (V1 b (s32 (i + 2))) V1 S1 (fun r2 V2 S2 => (s32 (lcmpI r1 r2) = 0 → N V2 S2) ∧ (¬ s32 (lcmpI r1 r2) = 0 → R V2 S2)))))) := by
  have hs := hL.scr
  rw [hs.vl hL3 i0 i6 (j := 1) (by omega) (by omega), hs.vl hL3 i0 i6 (j := 2) (by omega) (by omega)]
  refine turn (d := 60) (t := 1) (y1 := 146) (n1 := 2) (k1 := 0) (y2 := 236) (n2 := 2) (k2 := 0) (c1 := 0) (m' := 10 * i + 60) (As := [(0, (xs (i + 1).toNat).toInt), (0, (xs (i + 2).toNat).toInt)]) rfl (by decide +kernel) (by decide +kernel) rfl rfl (intsB rfl) hL i0 (fun Vl Sl hI hF => ?_) (fun r V1 S1 hs1 hm => ?_)
  · exact ⟨60000 + i, by omega, by omega, fun a h0 h1 => hF a h0, cmd_read (d := 55) (S := (Sl.1, Sl.2.1, 60000 + i)) hI.rz (by omega) (s32_x _) (s32_x _)⟩
  · refine ⟨hs1.ck hL3 i0 i6 (by omega) (by omega), hs1.ck hL3 i0 i6 (by omega) (by omega), ?_⟩
    rw [hs1.vl hL3 i0 i6 (j := 1) (by omega) (by omega), hs1.vl hL3 i0 i6 (j := 2) (by omega) (by omega)]
    exact hm _ (fun V2 S2 hL2 => ⟨fun _ => nx V2 S2 hL2, fun hne => absurd (lcmp_rr r) hne⟩)
theorem lw_shift (hL3 : L ≤ 3072) (i0 : 0 ≤ i) (i6 : i + 6 ≤ (L : Int)) (hL : LST xs L i (10 * i) b x m V S) (nx : ∀ V2 S2, LST xs L (i + 6) (10 * i + 60) b x m V2 S2 → N V2 S2) : C_x_shift 60 x (V b (s32 (i + 1))) (V b (s32 (i + 2))) (V b (s32 (i + 3))) (V b (s32 (i + 4))) (V b (s32 (i + 5))) V S (fun r1 V1 S1 => (CKj L b i 1 S1 ∧ (CKj L b i 2 S1 ∧ (CKj L b i 3 S1 ∧ (CKj L b i 4 S1 ∧ (CKj L b i 5 S1 ∧ (C_m_shift 60 m (V1 b (s32 (i + 1))) (V1 b (s32 (i + 2))) (V1 b (s32 (i + 3))) (V1 b (s32 (i + 4))) (V1 b (s32 (i + 5))) V1 S1 (fun r2 V2 S2 => (s32 r1 = s32 r2 → N V2 S2) ∧ (¬ s32 r1 = s32 r2 → R V2 S2))))))))) := by
  have hs := hL.scr
  rw [hs.vl hL3 i0 i6 (j := 1) (by omega) (by omega), hs.vl hL3 i0 i6 (j := 2) (by omega) (by omega), hs.vl hL3 i0 i6 (j := 3) (by omega) (by omega), hs.vl hL3 i0 i6 (j := 4) (by omega) (by omega), hs.vl hL3 i0 i6 (j := 5) (by omega) (by omega)]
  refine turn (d := 60) (t := 0) (y1 := 147) (n1 := 5) (k1 := 0) (y2 := 237) (n2 := 5) (k2 := 0) (c1 := 0) (m' := 10 * i + 60) (As := [(0, (xs (i + 1).toNat).toInt), (0, (xs (i + 2).toNat).toInt), (0, (xs (i + 3).toNat).toInt), (0, (xs (i + 4).toNat).toInt), (0, (xs (i + 5).toNat).toInt)]) rfl (by decide +kernel) (by decide +kernel) rfl rfl (intsB rfl) hL i0 (fun Vl Sl hI hF => ?_) (fun r V1 S1 hs1 hm => ?_)
  · exact ⟨60000 + i, by omega, by omega, fun a h0 h1 => hF a h0, cmd_shift (d := 55) (S := (Sl.1, Sl.2.1, 60000 + i)) hI.rz (by omega) (s32_x _) (s32_x _) (s32_x _) (s32_x _) (s32_x _)⟩
  · refine ⟨hs1.ck hL3 i0 i6 (by omega) (by omega), hs1.ck hL3 i0 i6 (by omega) (by omega), hs1.ck hL3 i0 i6 (by omega) (by omega), hs1.ck hL3 i0 i6 (by omega) (by omega), hs1.ck hL3 i0 i6 (by omega) (by omega), ?_⟩
    rw [hs1.vl hL3 i0 i6 (j := 1) (by omega) (by omega), hs1.vl hL3 i0 i6 (j := 2) (by omega) (by omega), hs1.vl hL3 i0 i6 (j := 3) (by omega) (by omega), hs1.vl hL3 i0 i6 (j := 4) (by omega) (by omega), hs1.vl hL3 i0 i6 (j := 5) (by omega) (by omega)]
    exact hm _ (fun V2 S2 hL2 => ⟨fun _ => nx V2 S2 hL2, fun hne => absurd rfl hne⟩)
end LWC
