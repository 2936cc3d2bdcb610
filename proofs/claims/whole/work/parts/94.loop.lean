/-! the loop of the law (printed by lawgen.py) -/
section LWL
variable {L : Nat} {xs : Nat → Int32} {b x m : Int}
theorem law_loop (hL3 : L ≤ 3072) : ∀ (N : Nat) (i : Int) (V : Mem) (S : Shp) (g : Cnt), (L : Int) ≤ i + 6 * (N : Int) + 5 → 0 ≤ i → i ≤ (L : Int) → (g.1 : Int) ≤ 83 + i → (g.2 : Int) ≤ 17747 + 115 * i → LST xs L i (10 * i) b x m V S → K_law_law 60 (fun r _ _ => r = 1) (18, [(2, b), (2, x), (2, m), (0, i)], [], V, S, g) := by
  intro N
  induction N with
  | zero =>
    intro i V S g hN i0 iL g1 g2 hL
    obtain ⟨h1, h2, h3⟩ := hL.scr
    have si : s32 i = i := s32_id (by omega) (by omega)
    have sL : s32 ((L : Int) - 6) = (L : Int) - 6 := s32_id (by omega) (by omega)
    rw [L_law_law_18, h1, h2, sL, si]
    exact ⟨⟨by omega, by omega⟩, fun _ => ⟨Or.inr l1, rfl⟩, fun q => absurd (show (L : Int) - 6 < i by omega) q⟩
  | succ N ih =>
    intro i V S g hN i0 iL g1 g2 hL
    have hs := hL.scr
    have si : s32 i = i := s32_id (by omega) (by omega)
    have sL : s32 ((L : Int) - 6) = (L : Int) - 6 := s32_id (by omega) (by omega)
    rw [L_law_law_18]
    refine ⟨by rw [hs.1]; omega, fun _ => ⟨Or.inr l1, rfl⟩, fun hlt => ?_⟩
    have i6 : i + 6 ≤ (L : Int) := by rw [hs.2.1, sL, si] at hlt; omega
    have nx : ∀ (V2 : Mem) (S2 : Shp) (g' : Cnt), (g'.1 : Int) ≤ 83 + (i + 6) → (g'.2 : Int) ≤ 17747 + 115 * (i + 6) → LST xs L (i + 6) (10 * i + 60) b x m V2 S2 → K_law_law 60 (fun r _ _ => r = 1) (18, [(2, b), (2, x), (2, m), (0, i + 6)], [], V2, S2, g') := fun V2 S2 g' q1 q2 h2 => ih (i + 6) V2 S2 g' (by omega) (by omega) i6 q1 q2 (by rw [show 10 * (i + 6) = 10 * i + 60 from by omega]; exact h2)
    have ck : ∀ j : Int, 0 ≤ j → j ≤ 5 → CKj L b i j S := fun j j0 j5 => hs.ck hL3 i0 i6 j0 j5
    refine ⟨⟨Or.inr hs.1, by rw [si]; omega, by rw [si, hs.2.1]; omega⟩, ?_⟩
    refine ⟨fun _ => ⟨ck 1 (by omega) (by omega), ck 2 (by omega) (by omega), ⟨by omega, by omega⟩, lw_home hL3 i0 i6 hL (fun V2 S2 h2 => nx V2 S2 (g.1 + 2, g.2 + 24) (by show ((g.1 + 2 : Nat) : Int) ≤ _; omega) (by show ((g.2 + 24 : Nat) : Int) ≤ _; omega) h2)⟩, fun _ => ?_⟩
    refine ⟨fun _ => ⟨ck 1 (by omega) (by omega), ck 2 (by omega) (by omega), ck 3 (by omega) (by omega), lw_month hL3 i0 i6 hL (fun V2 S2 h2 => nx V2 S2 g (by omega) (by omega) h2)⟩, fun _ => ?_⟩
    refine ⟨fun _ => ⟨ck 1 (by omega) (by omega), ck 2 (by omega) (by omega), ck 3 (by omega) (by omega), ⟨by omega, by omega⟩, lw_lamp hL3 i0 i6 hL (fun V2 S2 h2 => nx V2 S2 (g.1 + 6, g.2 + 690) (by show ((g.1 + 6 : Nat) : Int) ≤ _; omega) (by show ((g.2 + 690 : Nat) : Int) ≤ _; omega) h2)⟩, fun _ => ?_⟩
    refine ⟨fun _ => ⟨ck 1 (by omega) (by omega), ck 2 (by omega) (by omega), lw_lend hL3 i0 i6 hL (fun V2 S2 h2 => nx V2 S2 g (by omega) (by omega) h2)⟩, fun _ => ?_⟩
    refine ⟨fun _ => ⟨ck 1 (by omega) (by omega), ck 2 (by omega) (by omega), lw_move hL3 i0 i6 hL (fun V2 S2 h2 => nx V2 S2 g (by omega) (by omega) h2)⟩, fun _ => ?_⟩
    refine ⟨fun _ => ⟨ck 1 (by omega) (by omega), ck 2 (by omega) (by omega), lw_of hL3 i0 i6 hL (fun V2 S2 h2 => nx V2 S2 g (by omega) (by omega) h2)⟩, fun _ => ?_⟩
    refine ⟨fun _ => ⟨ck 1 (by omega) (by omega), lw_pass hL3 i0 i6 hL (fun V2 S2 h2 => nx V2 S2 g (by omega) (by omega) h2)⟩, fun _ => ?_⟩
    refine ⟨fun _ => ⟨ck 1 (by omega) (by omega), ck 2 (by omega) (by omega), lw_kind hL3 i0 i6 hL (fun V2 S2 h2 => nx V2 S2 g (by omega) (by omega) h2)⟩, fun _ => ?_⟩
    refine ⟨fun _ => ⟨ck 1 (by omega) (by omega), ck 2 (by omega) (by omega), ck 3 (by omega) (by omega), ck 4 (by omega) (by omega), lw_days hL3 i0 i6 hL (fun V2 S2 h2 => nx V2 S2 g (by omega) (by omega) h2)⟩, fun _ => ?_⟩
    refine ⟨fun _ => ⟨ck 1 (by omega) (by omega), ck 2 (by omega) (by omega), lw_feed hL3 i0 i6 hL (fun V2 S2 h2 => nx V2 S2 g (by omega) (by omega) h2)⟩, fun _ => ?_⟩
    refine ⟨fun _ => ⟨ck 1 (by omega) (by omega), ⟨by omega, by omega⟩, lw_text hL3 i0 i6 hL (fun V2 S2 h2 => nx V2 S2 (g.1 + 5, g.2 + 131) (by show ((g.1 + 5 : Nat) : Int) ≤ _; omega) (by show ((g.2 + 131 : Nat) : Int) ≤ _; omega) h2)⟩, fun _ => ?_⟩
    refine ⟨fun _ => ⟨ck 1 (by omega) (by omega), ck 2 (by omega) (by omega), ck 3 (by omega) (by omega), ck 4 (by omega) (by omega), lw_force hL3 i0 i6 hL (fun V2 S2 h2 => nx V2 S2 g (by omega) (by omega) h2)⟩, fun _ => ?_⟩
    refine ⟨fun _ => ⟨ck 1 (by omega) (by omega), ck 2 (by omega) (by omega), ck 3 (by omega) (by omega), lw_why hL3 i0 i6 hL (fun V2 S2 h2 => nx V2 S2 g (by omega) (by omega) h2)⟩, fun _ => ?_⟩
    refine ⟨fun _ => ⟨ck 1 (by omega) (by omega), ck 2 (by omega) (by omega), ck 3 (by omega) (by omega), lw_code hL3 i0 i6 hL (fun V2 S2 h2 => nx V2 S2 g (by omega) (by omega) h2)⟩, fun _ => ?_⟩
    refine ⟨fun _ => ⟨ck 1 (by omega) (by omega), ck 2 (by omega) (by omega), lw_sold hL3 i0 i6 hL (fun V2 S2 h2 => nx V2 S2 g (by omega) (by omega) h2)⟩, fun _ => ?_⟩
    refine ⟨fun _ => ⟨ck 1 (by omega) (by omega), ck 2 (by omega) (by omega), lw_take hL3 i0 i6 hL (fun V2 S2 h2 => nx V2 S2 g (by omega) (by omega) h2)⟩, fun _ => ?_⟩
    refine ⟨fun _ => ⟨ck 1 (by omega) (by omega), lw_agree hL3 i0 i6 hL (fun V2 S2 h2 => nx V2 S2 g (by omega) (by omega) h2)⟩, fun _ => ?_⟩
    refine ⟨fun _ => ⟨ck 1 (by omega) (by omega), ck 2 (by omega) (by omega), lw_drift hL3 i0 i6 hL (fun V2 S2 h2 => nx V2 S2 g (by omega) (by omega) h2)⟩, fun _ => ?_⟩
    refine ⟨fun _ => ⟨ck 1 (by omega) (by omega), ck 2 (by omega) (by omega), lw_paid hL3 i0 i6 hL (fun V2 S2 h2 => nx V2 S2 g (by omega) (by omega) h2)⟩, fun _ => ?_⟩
    refine ⟨fun _ => ⟨ck 1 (by omega) (by omega), ck 2 (by omega) (by omega), lw_roll hL3 i0 i6 hL (fun V2 S2 h2 => nx V2 S2 g (by omega) (by omega) h2)⟩, fun _ => ?_⟩
    refine ⟨fun _ => ⟨ck 1 (by omega) (by omega), ck 2 (by omega) (by omega), ck 3 (by omega) (by omega), lw_can hL3 i0 i6 hL (fun V2 S2 h2 => nx V2 S2 g (by omega) (by omega) h2)⟩, fun _ => ?_⟩
    refine ⟨fun _ => ⟨ck 1 (by omega) (by omega), ck 2 (by omega) (by omega), ck 3 (by omega) (by omega), lw_best hL3 i0 i6 hL (fun V2 S2 h2 => nx V2 S2 g (by omega) (by omega) h2)⟩, fun _ => ?_⟩
    refine ⟨fun _ => ⟨ck 1 (by omega) (by omega), ck 2 (by omega) (by omega), ck 3 (by omega) (by omega), lw_broke hL3 i0 i6 hL (fun V2 S2 h2 => nx V2 S2 g (by omega) (by omega) h2)⟩, fun _ => ?_⟩
    refine ⟨fun _ => lw_cause hL3 i0 i6 hL (fun V2 S2 h2 => nx V2 S2 g (by omega) (by omega) h2), fun _ => ?_⟩
    refine ⟨fun _ => ⟨ck 1 (by omega) (by omega), ck 2 (by omega) (by omega), ck 3 (by omega) (by omega), ck 4 (by omega) (by omega), lw_sell hL3 i0 i6 hL (fun V2 S2 h2 => nx V2 S2 g (by omega) (by omega) h2)⟩, fun _ => ?_⟩
    refine ⟨fun _ => ⟨ck 1 (by omega) (by omega), ck 2 (by omega) (by omega), lw_whose hL3 i0 i6 hL (fun V2 S2 h2 => nx V2 S2 g (by omega) (by omega) h2)⟩, fun _ => ?_⟩
    refine ⟨fun _ => ⟨ck 1 (by omega) (by omega), ck 2 (by omega) (by omega), lw_tried hL3 i0 i6 hL (fun V2 S2 h2 => nx V2 S2 g (by omega) (by omega) h2)⟩, fun _ => ?_⟩
    refine ⟨fun _ => ⟨ck 1 (by omega) (by omega), ck 2 (by omega) (by omega), ck 3 (by omega) (by omega), lw_hear hL3 i0 i6 hL (fun V2 S2 h2 => nx V2 S2 g (by omega) (by omega) h2)⟩, fun _ => ?_⟩
    refine ⟨fun _ => ⟨ck 1 (by omega) (by omega), ck 2 (by omega) (by omega), lw_known hL3 i0 i6 hL (fun V2 S2 h2 => nx V2 S2 g (by omega) (by omega) h2)⟩, fun _ => ?_⟩
    refine ⟨fun _ => ⟨ck 1 (by omega) (by omega), ck 2 (by omega) (by omega), ck 3 (by omega) (by omega), ck 4 (by omega) (by omega), lw_act hL3 i0 i6 hL (fun V2 S2 h2 => nx V2 S2 g (by omega) (by omega) h2)⟩, fun _ => ?_⟩
    refine ⟨fun _ => ⟨ck 1 (by omega) (by omega), lw_trace hL3 i0 i6 hL (fun V2 S2 h2 => nx V2 S2 g (by omega) (by omega) h2)⟩, fun _ => ?_⟩
    refine ⟨fun _ => ⟨ck 1 (by omega) (by omega), ck 2 (by omega) (by omega), ck 3 (by omega) (by omega), lw_taken hL3 i0 i6 hL (fun V2 S2 h2 => nx V2 S2 g (by omega) (by omega) h2)⟩, fun _ => ?_⟩
    refine ⟨fun _ => ⟨ck 1 (by omega) (by omega), ck 2 (by omega) (by omega), ck 3 (by omega) (by omega), lw_list hL3 i0 i6 hL (fun V2 S2 h2 => nx V2 S2 g (by omega) (by omega) h2)⟩, fun _ => ?_⟩
    refine ⟨fun _ => ⟨ck 1 (by omega) (by omega), lw_count hL3 i0 i6 hL (fun V2 S2 h2 => nx V2 S2 g (by omega) (by omega) h2)⟩, fun _ => ?_⟩
    refine ⟨fun _ => ⟨ck 1 (by omega) (by omega), ck 2 (by omega) (by omega), ck 3 (by omega) (by omega), lw_tape hL3 i0 i6 hL (fun V2 S2 h2 => nx V2 S2 g (by omega) (by omega) h2)⟩, fun _ => ?_⟩
    refine ⟨fun _ => ⟨ck 1 (by omega) (by omega), ck 2 (by omega) (by omega), ck 3 (by omega) (by omega), ck 4 (by omega) (by omega), lw_item hL3 i0 i6 hL (fun V2 S2 h2 => nx V2 S2 g (by omega) (by omega) h2)⟩, fun _ => ?_⟩
    refine ⟨fun _ => ⟨ck 1 (by omega) (by omega), ck 2 (by omega) (by omega), lw_read hL3 i0 i6 hL (fun V2 S2 h2 => nx V2 S2 g (by omega) (by omega) h2)⟩, fun _ => ?_⟩
    refine ⟨fun _ => ⟨ck 1 (by omega) (by omega), ck 2 (by omega) (by omega), ck 3 (by omega) (by omega), ck 4 (by omega) (by omega), ck 5 (by omega) (by omega), lw_shift hL3 i0 i6 hL (fun V2 S2 h2 => nx V2 S2 g (by omega) (by omega) h2)⟩, fun _ => ?_⟩
    refine nx V S g (by omega) (by omega) ?_
    obtain ⟨ρ, B, Vl, Sl, h1, h2, h3, h4, h5⟩ := hL
    exact ⟨ρ, B, Vl, Sl, h1, h2, h3.up (by omega), h4, fun a ha => h5 a (by omega)⟩
end LWL
