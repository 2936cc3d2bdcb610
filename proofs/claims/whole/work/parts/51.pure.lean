/-! what is read is well-made -/
theorem nmP_r (pk : Int → Int) (p : Int) : (nmP pk p).1 = true → 0 ≤ (nmP pk p).2.2 ∧ (nmP pk p).2.2 ≤ 999 := by
  unfold nmP
  by_cases c0 : isd (pk p) = true
  · have r0 := isd_i.mp c0
    rw [c0]
    by_cases c1 : isd (pk (p + 1)) = true
    · have r1 := isd_i.mp c1
      rw [c1]
      by_cases c2 : isd (pk (p + 2)) = true
      · have r2 := isd_i.mp c2
        rw [c2]
        intro _
        show 0 ≤ 100 * (pk p - 48) + 10 * (pk (p + 1) - 48) + (pk (p + 2) - 48) ∧ 100 * (pk p - 48) + 10 * (pk (p + 1) - 48) + (pk (p + 2) - 48) ≤ 999
        omega
      · rw [nf c2]
        intro _
        show 0 ≤ 10 * (pk p - 48) + (pk (p + 1) - 48) ∧ 10 * (pk p - 48) + (pk (p + 1) - 48) ≤ 999
        omega
    · rw [nf c1]
      intro _
      show 0 ≤ pk p - 48 ∧ pk p - 48 ≤ 999
      omega
  · rw [nf c0]
    intro q
    cases q
section PR2
variable {fx : Int → Int} {pk : Int → Int}
theorem pTest_rp (p : Int) (h : (pTest pk p).1 = true) : ∃ v, RP fx (pTest pk p).2.2 v 1 := by
  by_cases c1 : ltr (pk p) < 0
  · have hv : pTest pk p = (false, p, []) := by unfold pTest; rw [if_pos c1]
    rw [hv] at h
    cases h
  · by_cases c2 : sgn (pk (p + 1)) < 0
    · have hv : pTest pk p = (false, p + 1, []) := by unfold pTest; rw [if_neg c1, if_pos c2]
      rw [hv] at h
      cases h
    · have hv : pTest pk p = bif (nmP pk (p + 2)).1 then (true, (nmP pk (p + 2)).2.1, [(ltr (pk p) * 3 + sgn (pk (p + 1))) * 1000 + (nmP pk (p + 2)).2.2]) else (false, (nmP pk (p + 2)).2.1, []) := by unfold pTest; rw [if_neg c1, if_neg c2]
      rw [hv] at h ⊢
      by_cases c3 : (nmP pk (p + 2)).1 = true
      · rw [c3]
        have r := nmP_r pk (p + 2) c3
        have r1 : 0 ≤ ltr (pk p) ∧ ltr (pk p) ≤ 5 := by rcases ltr_r (x := pk p) with q | q <;> omega
        have r2 : 0 ≤ sgn (pk (p + 1)) ∧ sgn (pk (p + 1)) ≤ 2 := by
          refine ⟨by omega, ?_⟩
          unfold sgn
          repeat' split
          all_goals omega
        exact ⟨_, RP.test (by omega) (by omega)⟩
      · rw [nf c3] at h
        cases h
theorem pLoop_and {f : Int → PR} {D : Nat} (hf : ∀ p, (f p).1 = true → ∃ v, RP fx (f p).2.2 v D) : ∀ (N : Nat) (p : Int) (L : List Int) (t : Bool), RP fx L t (D + 1) → (pLoop pk 38 (-2) f N p L).1 = true → ∃ v, RP fx (pLoop pk 38 (-2) f N p L).2.2 v (D + 1) := by
  intro N
  induction N with
  | zero => intro p L t hL _; exact ⟨t, hL⟩
  | succ N ih =>
    intro p L t hL h
    by_cases e : pk p = 38
    · have hl : pLoop pk 38 (-2) f (N + 1) p L = bif (f (p + 1)).1 then pLoop pk 38 (-2) f N (f (p + 1)).2.1 (L ++ (f (p + 1)).2.2 ++ [-2]) else (false, (f (p + 1)).2.1, []) := by
        show (if pk p = 38 then _ else _) = _
        rw [if_pos e]
      rw [hl] at h ⊢
      by_cases c : (f (p + 1)).1 = true
      · rw [c] at h ⊢
        obtain ⟨v, hv⟩ := hf _ c
        exact ih _ _ (t && v) (hL.and hv (Nat.le_refl _) (Nat.le_refl _)) h
      · rw [nf c] at h
        cases h
    · have hl : pLoop pk 38 (-2) f (N + 1) p L = (true, p, L) := by
        show (if pk p = 38 then _ else _) = _
        rw [if_neg e]
      rw [hl]
      exact ⟨t, hL⟩
theorem pLoop_or {f : Int → PR} {D : Nat} (hf : ∀ p, (f p).1 = true → ∃ v, RP fx (f p).2.2 v D) : ∀ (N : Nat) (p : Int) (L : List Int) (t : Bool), RP fx L t (D + 1) → (pLoop pk 124 (-3) f N p L).1 = true → ∃ v, RP fx (pLoop pk 124 (-3) f N p L).2.2 v (D + 1) := by
  intro N
  induction N with
  | zero => intro p L t hL _; exact ⟨t, hL⟩
  | succ N ih =>
    intro p L t hL h
    by_cases e : pk p = 124
    · have hl : pLoop pk 124 (-3) f (N + 1) p L = bif (f (p + 1)).1 then pLoop pk 124 (-3) f N (f (p + 1)).2.1 (L ++ (f (p + 1)).2.2 ++ [-3]) else (false, (f (p + 1)).2.1, []) := by
        show (if pk p = 124 then _ else _) = _
        rw [if_pos e]
      rw [hl] at h ⊢
      by_cases c : (f (p + 1)).1 = true
      · rw [c] at h ⊢
        obtain ⟨v, hv⟩ := hf _ c
        exact ih _ _ (t || v) (hL.or hv (Nat.le_refl _) (Nat.le_refl _)) h
      · rw [nf c] at h
        cases h
    · have hl : pLoop pk 124 (-3) f (N + 1) p L = (true, p, L) := by
        show (if pk p = 124 then _ else _) = _
        rw [if_neg e]
      rw [hl]
      exact ⟨t, hL⟩
theorem pT_rp {f : Int → PR} {D : Nat} (hf : ∀ p, (f p).1 = true → ∃ v, RP fx (f p).2.2 v D) (p : Int) (h : (pT pk f p).1 = true) : ∃ v, RP fx (pT pk f p).2.2 v (D + 1) := by
  have hl : pT pk f p = bif (f p).1 then pLoop pk 38 (-2) f 100 (f p).2.1 (f p).2.2 else (false, (f p).2.1, []) := rfl
  rw [hl] at h ⊢
  by_cases c : (f p).1 = true
  · rw [c] at h ⊢
    obtain ⟨v, hv⟩ := hf _ c
    exact pLoop_and hf 100 _ _ v (hv.mono (Nat.le_succ _)) h
  · rw [nf c] at h
    cases h
theorem pE_rp {f : Int → PR} {D : Nat} (hf : ∀ p, (f p).1 = true → ∃ v, RP fx (f p).2.2 v D) (p : Int) (h : (pE pk f p).1 = true) : ∃ v, RP fx (pE pk f p).2.2 v (D + 2) := by
  have hl : pE pk f p = bif (pT pk f p).1 then pLoop pk 124 (-3) (pT pk f) 100 (pT pk f p).2.1 (pT pk f p).2.2 else (false, (pT pk f p).2.1, []) := rfl
  rw [hl] at h ⊢
  by_cases c : (pT pk f p).1 = true
  · rw [c] at h ⊢
    obtain ⟨v, hv⟩ := pT_rp hf p c
    exact pLoop_or (pT_rp hf) 100 _ _ v (hv.mono (Nat.le_succ _)) h
  · rw [nf c] at h
    cases h
theorem pF_rp : ∀ (k : Nat) (p : Int), (pF pk k p).1 = true → ∃ v, RP fx (pF pk k p).2.2 v (2 * k + 1)
  | 0, p, h => pTest_rp p h
  | k + 1, p, h => by
    by_cases c : pk p = 33
    · have hv : pF pk (k + 1) p = (bif (pF pk k (p + 1)).1 then (true, (pF pk k (p + 1)).2.1, (pF pk k (p + 1)).2.2 ++ [-1]) else (false, (pF pk k (p + 1)).2.1, [])) := by
        show (if pk p = 33 then _ else _) = _
        rw [if_pos c]
      rw [hv] at h ⊢
      by_cases c2 : (pF pk k (p + 1)).1 = true
      · rw [c2]
        obtain ⟨v, hv⟩ := pF_rp k (p + 1) c2
        exact ⟨!v, hv.not.mono (by omega)⟩
      · rw [nf c2] at h
        cases h
    · by_cases c2 : pk p = 40
      · have hv : pF pk (k + 1) p = (bif (pE pk (pF pk k) (p + 1)).1 then (if pk (pE pk (pF pk k) (p + 1)).2.1 = 41 then (true, (pE pk (pF pk k) (p + 1)).2.1 + 1, (pE pk (pF pk k) (p + 1)).2.2) else (false, (pE pk (pF pk k) (p + 1)).2.1, [])) else (false, (pE pk (pF pk k) (p + 1)).2.1, [])) := by
          show (if pk p = 33 then _ else if pk p = 40 then _ else _) = _
          rw [if_neg c, if_pos c2]
        rw [hv] at h ⊢
        by_cases c3 : (pE pk (pF pk k) (p + 1)).1 = true
        · rw [c3] at h ⊢
          obtain ⟨v, hv⟩ := pE_rp (fx := fx) (fun p => pF_rp k p) (p + 1) c3
          by_cases c4 : pk (pE pk (pF pk k) (p + 1)).2.1 = 41
          · rw [if_pos c4]
            exact ⟨v, hv.mono (by omega)⟩
          · rw [if_neg c4] at h
            cases h
        · rw [nf c3] at h
          cases h
      · have hv : pF pk (k + 1) p = pTest pk p := by
          show (if pk p = 33 then _ else if pk p = 40 then _ else _) = _
          rw [if_neg c, if_neg c2]
        rw [hv] at h ⊢
        obtain ⟨v, hv⟩ := pTest_rp (fx := fx) p h
        exact ⟨v, hv.mono (by omega)⟩
end PR2
/-- a clause that is well-made -/
def CLr (c : CL) : Prop := (0 ≤ c.1 ∧ c.1 ≤ 4) ∧ (0 ≤ c.2.1 ∧ c.2.1 ≤ 999 ∧ (c.1 = 2 → c.2.1 ≤ 1) ∧ 0 ≤ c.2.2.1 ∧ c.2.2.1 ≤ 999) ∧ (3 ≤ c.1 → ∀ fx : Int → Int, ∃ v, RP fx c.2.2.2 v 11)
theorem pTests_r {pk : Int → Int} {w : List Int} {wd p : Int} (hw : wd = 3 ∨ wd = 4) (h : (pTests pk w wd p).1 = true) : CLr (pTests pk w wd p).2.2 := by
  by_cases c1 : (pW pk w p).1 = true
  · by_cases c2 : (pE pk (pF pk 4) (pW pk w p).2).1 = true
    · have hv : pTests pk w wd p = (true, (pE pk (pF pk 4) (pW pk w p).2).2.1, (wd, 0, 0, (pE pk (pF pk 4) (pW pk w p).2).2.2)) := by unfold pTests; rw [c1, c2]; rfl
      rw [hv]
      exact ⟨⟨by show 0 ≤ wd; omega, by show wd ≤ 4; omega⟩, ⟨Int.le_refl _, by show (0 : Int) ≤ 999; omega, fun _ => by show (0 : Int) ≤ 1; omega, Int.le_refl _, by show (0 : Int) ≤ 999; omega⟩, fun _ fx => pE_rp (fx := fx) (fun p => pF_rp 4 p) _ c2⟩
    · have hv : pTests pk w wd p = noC (pE pk (pF pk 4) (pW pk w p).2).2.1 := by unfold pTests; rw [c1, nf c2]; rfl
      rw [hv] at h
      cases h
  · have hv : pTests pk w wd p = noC (pW pk w p).2 := by unfold pTests; rw [nf c1]; rfl
    rw [hv] at h
    cases h
theorem pC_r {pk : Int → Int} {p : Int} (h : (pC pk p).1 = true) : CLr (pC pk p).2.2 := by
  by_cases c1 : pk p = 115
  · have hv : pC pk p = pSum pk p := by unfold pC; rw [if_pos c1]
    rw [hv] at h ⊢
    by_cases e1 : (pW pk [115, 117, 109, 32] p).1 = true
    · by_cases e2 : (nmP pk (pW pk [115, 117, 109, 32] p).2).1 = true
      · have r := nmP_r _ _ e2
        by_cases e3 : pk (nmP pk (pW pk [115, 117, 109, 32] p).2).2.1 = 32
        · by_cases e4 : (nmP pk ((nmP pk (pW pk [115, 117, 109, 32] p).2).2.1 + 1)).1 = true
          · have hs : pSum pk p = (true, (nmP pk ((nmP pk (pW pk [115, 117, 109, 32] p).2).2.1 + 1)).2.1, (0, (nmP pk (pW pk [115, 117, 109, 32] p).2).2.2, (nmP pk ((nmP pk (pW pk [115, 117, 109, 32] p).2).2.1 + 1)).2.2, [])) := by unfold pSum; rw [e1, e2, e4, if_pos e3]; rfl
            rw [hs]
            exact ⟨⟨Int.le_refl _, by show (0 : Int) ≤ 4; omega⟩, ⟨r.1, r.2, fun q => (by have q : (0 : Int) = 2 := q; omega), nmP_r _ _ e4⟩, fun q => by have q : (3 : Int) ≤ 0 := q; omega⟩
          · have hs : pSum pk p = noC (nmP pk ((nmP pk (pW pk [115, 117, 109, 32] p).2).2.1 + 1)).2.1 := by unfold pSum; rw [e1, e2, nf e4, if_pos e3]; rfl
            rw [hs] at h
            cases h
        · have hs : pSum pk p = noC (nmP pk (pW pk [115, 117, 109, 32] p).2).2.1 := by unfold pSum; rw [e1, e2, if_neg e3]; rfl
          rw [hs] at h
          cases h
      · have hs : pSum pk p = noC (nmP pk (pW pk [115, 117, 109, 32] p).2).2.1 := by unfold pSum; rw [e1, nf e2]; rfl
        rw [hs] at h
        cases h
    · have hs : pSum pk p = noC (pW pk [115, 117, 109, 32] p).2 := by unfold pSum; rw [nf e1]; rfl
      rw [hs] at h
      cases h
  · by_cases c2 : pk p = 103
    · have hv : pC pk p = pGrace pk p := by unfold pC; rw [if_neg c1, if_pos c2]
      rw [hv] at h ⊢
      by_cases e1 : (pW pk [103, 114, 97, 99, 101, 32] p).1 = true
      · by_cases e2 : (nmP pk (pW pk [103, 114, 97, 99, 101, 32] p).2).1 = true
        · have r := nmP_r _ _ e2
          have hs : pGrace pk p = (true, (nmP pk (pW pk [103, 114, 97, 99, 101, 32] p).2).2.1, (1, (nmP pk (pW pk [103, 114, 97, 99, 101, 32] p).2).2.2, 0, [])) := by unfold pGrace; rw [e1, e2]; rfl
          rw [hs]
          exact ⟨⟨by show (0 : Int) ≤ 1; omega, by show (1 : Int) ≤ 4; omega⟩, ⟨r.1, r.2, fun q => (by have q : (1 : Int) = 2 := q; omega), Int.le_refl _, by show (0 : Int) ≤ 999; omega⟩, fun q => by have q : (3 : Int) ≤ 1 := q; omega⟩
        · have hs : pGrace pk p = noC (nmP pk (pW pk [103, 114, 97, 99, 101, 32] p).2).2.1 := by unfold pGrace; rw [e1, nf e2]; rfl
          rw [hs] at h
          cases h
      · have hs : pGrace pk p = noC (pW pk [103, 114, 97, 99, 101, 32] p).2 := by unfold pGrace; rw [nf e1]; rfl
        rw [hs] at h
        cases h
    · by_cases c3 : pk p = 114
      · have hv : pC pk p = pRun pk p := by unfold pC; rw [if_neg c1, if_neg c2, if_pos c3]
        rw [hv] at h ⊢
        by_cases e1 : (pW pk [114, 117, 110, 32] p).1 = true
        · by_cases e2 : pk (pW pk [114, 117, 110, 32] p).2 = 121
          · have hs : pRun pk p = (true, (pW pk [114, 117, 110, 32] p).2 + 1, (2, 1, 0, [])) := by unfold pRun; rw [e1, if_pos e2]; rfl
            rw [hs]
            exact ⟨⟨by show (0 : Int) ≤ 2; omega, by show (2 : Int) ≤ 4; omega⟩, ⟨by show (0 : Int) ≤ 1; omega, by show (1 : Int) ≤ 999; omega, fun _ => Int.le_refl _, Int.le_refl _, by show (0 : Int) ≤ 999; omega⟩, fun q => by have q : (3 : Int) ≤ 2 := q; omega⟩
          · by_cases e3 : pk (pW pk [114, 117, 110, 32] p).2 = 110
            · have hs : pRun pk p = (true, (pW pk [114, 117, 110, 32] p).2 + 1, (2, 0, 0, [])) := by unfold pRun; rw [e1, if_neg e2, if_pos e3]; rfl
              rw [hs]
              exact ⟨⟨by show (0 : Int) ≤ 2; omega, by show (2 : Int) ≤ 4; omega⟩, ⟨by show (0 : Int) ≤ 0; omega, by show (0 : Int) ≤ 999; omega, fun _ => by show (0 : Int) ≤ 1; omega, Int.le_refl _, by show (0 : Int) ≤ 999; omega⟩, fun q => by have q : (3 : Int) ≤ 2 := q; omega⟩
            · have hs : pRun pk p = noC (pW pk [114, 117, 110, 32] p).2 := by unfold pRun; rw [e1, if_neg e2, if_neg e3]; rfl
              rw [hs] at h
              cases h
        · have hs : pRun pk p = noC (pW pk [114, 117, 110, 32] p).2 := by unfold pRun; rw [nf e1]; rfl
          rw [hs] at h
          cases h
      · by_cases c4 : pk p = 102
        · have hv : pC pk p = pTests pk [102, 101, 116, 99, 104, 32] 3 p := by unfold pC; rw [if_neg c1, if_neg c2, if_neg c3, if_pos c4]
          rw [hv] at h ⊢
          exact pTests_r (Or.inl rfl) h
        · by_cases c5 : pk p = 111
          · have hv : pC pk p = pTests pk [111, 102, 102, 32] 4 p := by unfold pC; rw [if_neg c1, if_neg c2, if_neg c3, if_neg c4, if_pos c5]
            rw [hv] at h ⊢
            exact pTests_r (Or.inr rfl) h
          · have hv : pC pk p = noC p := by unfold pC; rw [if_neg c1, if_neg c2, if_neg c3, if_neg c4, if_neg c5]
            rw [hv] at h
            cases h
theorem pX_r (pk : Int → Int) (n : Int) : ∀ (k : Nat) (p : Int) (cs : List CL), (∀ c ∈ cs, CLr c) → ∀ c ∈ (pX pk n k p cs).2.2, CLr c
  | 0, p, cs, h => h
  | k + 1, p, cs, h => by
    by_cases c1 : (pC pk p).1 = true
    · have h2 : ∀ c ∈ cs ++ [(pC pk p).2.2], CLr c := fun c hc => by
        rcases List.mem_append.mp hc with q | q
        · exact h c q
        · rw [List.mem_singleton.mp q]
          exact pC_r c1
      by_cases c2 : (pC pk p).2.1 = n
      · have hv : pX pk n (k + 1) p cs = (true, n, cs ++ [(pC pk p).2.2]) := by
          show (bif (pC pk p).1 then (if (pC pk p).2.1 = n then _ else _) else _) = _
          rw [c1, if_pos c2]; rfl
        rw [hv]
        exact h2
      · by_cases c3 : k = 0
        · have hv : pX pk n (k + 1) p cs = (false, (pC pk p).2.1, cs) := by
            show (bif (pC pk p).1 then (if (pC pk p).2.1 = n then _ else if k = 0 then _ else _) else _) = _
            rw [c1, if_neg c2, if_pos c3]; rfl
          rw [hv]
          exact h
        · by_cases c4 : pk (pC pk p).2.1 = 59
          · have hv : pX pk n (k + 1) p cs = pX pk n k ((pC pk p).2.1 + 1) (cs ++ [(pC pk p).2.2]) := by
              show (bif (pC pk p).1 then (if (pC pk p).2.1 = n then _ else if k = 0 then _ else if pk (pC pk p).2.1 = 59 then _ else _) else _) = _
              rw [c1, if_neg c2, if_neg c3, if_pos c4]; rfl
            rw [hv]
            exact pX_r pk n k _ _ h2
          · have hv : pX pk n (k + 1) p cs = (false, (pC pk p).2.1, cs) := by
              show (bif (pC pk p).1 then (if (pC pk p).2.1 = n then _ else if k = 0 then _ else if pk (pC pk p).2.1 = 59 then _ else _) else _) = _
              rw [c1, if_neg c2, if_neg c3, if_neg c4]; rfl
            rw [hv]
            exact h
    · have hv : pX pk n (k + 1) p cs = (false, (pC pk p).2.1, cs) := by
        show (bif (pC pk p).1 then _ else _) = _
        rw [nf c1]; rfl
      rw [hv]
      exact h
theorem csM_r (V : Mem) (u : Int) : ∀ c ∈ csM V u, CLr c := pX_r _ _ 8 0 [] (fun c hc => absurd hc List.not_mem_nil)
theorem RP.uniq {fx : Int → Int} {L : List Int} {v w : Bool} {d1 d2 : Nat} (h1 : RP fx L v d1) (h2 : RP fx L w d2) (e1 : d1 ≤ 31) (e2 : d2 ≤ 31) : v = w := by
  have a := (h1 [] (by show 0 + d1 ≤ 31; omega)).1
  have b := (h2 [] (by show 0 + d2 ≤ 31; omega)).1
  rw [a] at b
  exact (List.cons.inj b).1
