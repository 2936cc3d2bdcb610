/-! the logical memory: reading behind writes, frames -/
theorem up2_eq {V : Mem} {a k v b j : Int} (h1 : b = a) (h2 : j = k) : up2 V a k v b j = v := if_pos ⟨h1, h2⟩
theorem up2_ne {V : Mem} {a k v b j : Int} (h : b ≠ a ∨ j ≠ k) : up2 V a k v b j = V b j := if_neg (fun e => h.elim (fun q => q e.1) (fun q => q e.2))
theorem upo_eq {V : Mem} {a b : Int} {f : Int → Int} (h1 : b = a) : upo V a f b = f := if_pos h1
theorem upo_ne {V : Mem} {a b : Int} {f : Int → Int} (h : b ≠ a) : upo V a f b = V b := if_neg h
theorem upk_eq {f : Int → Int} {a b v : Int} (h1 : b = a) : upk f a v b = v := if_pos h1
theorem upk_ne {f : Int → Int} {a b v : Int} (h : b ≠ a) : upk f a v b = f b := if_neg h
/-- what a memory keeps of another one -/
def FRM (D : Int → Int → Prop) (V V' : Mem) : Prop := ∀ a k, D a k → V' a k = V a k
section FR
variable {D E : Int → Int → Prop} {V V' V2 : Mem} {a k v : Int}
theorem FRM.rf : FRM D V V := fun _ _ _ => rfl
theorem FRM.up (h : FRM D V V') (hn : ¬ D a k) : FRM D V (up2 V' a k v) := fun b j hd => by
  rw [up2_ne]
  · exact h b j hd
  · by_cases e : b = a
    · exact Or.inr (fun e2 => hn (e ▸ e2 ▸ hd))
    · exact Or.inl e
theorem FRM.po {f : Int → Int} (h : FRM D V V') (hn : ∀ j, ¬ D a j) : FRM D V (upo V' a f) := fun b j hd => by
  rw [upo_ne]
  · exact h b j hd
  · exact fun e => hn j (e ▸ hd)
theorem FRM.tr (h : FRM D V V') (g : FRM D V' V2) : FRM D V V2 := fun a k hd => (g a k hd).trans (h a k hd)
theorem FRM.sub (h : FRM D V V') (hs : ∀ a k, E a k → D a k) : FRM E V V' := fun a k hd => h a k (hs a k hd)
end FR
/-- the cells that hold references and constants -/
def VD (a k : Int) : Prop := (-8 ≤ a ∧ a ≤ -2) ∨ (a = 100 ∧ k ≤ 9) ∨ a = 103 ∨ (a = 104 ∧ k = 0) ∨ (a = 106 ∧ k = 0) ∨ ((a = 113 ∨ a = 115 ∨ a = 117) ∧ k ≤ 1) ∨ (a = 119 ∧ k = 1) ∨ (a = 121 ∧ (k = 0 ∨ k = 3 ∨ k = 4)) ∨ (125 ≤ a ∧ a ≤ 135 ∧ a % 2 = 1 ∧ k = 2) ∨ (a = 137 ∧ ((3 ≤ k ∧ k ≤ 23) ∨ (26 ≤ k ∧ k ≤ 29) ∨ (40 ≤ k ∧ k ≤ 41) ∨ (46 ≤ k ∧ k ≤ 49) ∨ (55 ≤ k ∧ k ≤ 63) ∨ 68 ≤ k))
theorem VT_D : ∀ p ∈ VT, VD p.1 p.2.1 := by
  unfold VD
  decide +kernel
theorem FV.fr {V V' : Mem} (h : FV V) (f : FRM VD V V') : FV V' := fun p hp => (f _ _ (VT_D p hp)).trans (h p hp)
/-- where a text of TERMS lies -/
def TA (t : Int) : Int := 108 + 5000 * t
def LSK (V : Mem) (S : Shp) (i : Int) : Prop := (S.1 (1000 + 10 * i) = 5 ∧ S.1 (1001 + 10 * i) = 6 ∧ S.1 (1002 + 10 * i) = 6 ∧ S.1 (1003 + 10 * i) = 3 ∧ S.1 (1004 + 10 * i) = 101 ∧ S.2.1 (1004 + 10 * i) = 64 ∧ S.1 (1005 + 10 * i) = 101 ∧ S.2.1 (1005 + 10 * i) = 600) ∧ V 102 i = 1000 + 10 * i ∧ V (1000 + 10 * i) 0 = i ∧ V (1000 + 10 * i) 4 = 1001 + 10 * i ∧ V (1000 + 10 * i) 5 = 1002 + 10 * i ∧ V (1000 + 10 * i) 6 = 1003 + 10 * i ∧ V (1000 + 10 * i) 7 = 1005 + 10 * i ∧ V (1003 + 10 * i) 3 = 1004 + 10 * i
def HSK (V : Mem) (S : Shp) (j : Int) : Prop := (S.1 (2000 + 10 * j) = 4 ∧ S.1 (2001 + 10 * j) = 100 ∧ S.2.1 (2001 + 10 * j) = 20) ∧ V 101 j = 2000 + 10 * j ∧ V (2000 + 10 * j) 0 = j ∧ V (2000 + 10 * j) 3 = 2001 + 10 * j
def TSK (V : Mem) (S : Shp) (t : Int) : Prop := (S.1 (TA t) = 9 ∧ S.1 (TA t + 1) = 100 ∧ S.1 (TA t + 2) = 100 ∧ S.1 (TA t + 3) = 100 ∧ S.1 (TA t + 4) = 100 ∧ S.2.1 (TA t + 1) = 8 ∧ S.2.1 (TA t + 2) = 8 ∧ S.2.1 (TA t + 3) = 8 ∧ S.2.1 (TA t + 4) = 100) ∧ V (TA t) 2 = TA t + 1 ∧ V (TA t) 3 = TA t + 2 ∧ V (TA t) 4 = TA t + 3 ∧ V (TA t) 5 = TA t + 4
/-- the skeleton: what every call rests on and few change -/
def SK (V : Mem) (S : Shp) : Prop := FS S ∧ FV V ∧ ((V 100 10 = V 137 1 ∧ 0 ≤ V 137 1 ∧ V 137 1 ≤ 12) ∧ (V 100 11 = V 137 2 ∧ 0 ≤ V 137 2 ∧ V 137 2 ≤ 20) ∧ (V 100 12 = V 137 0 ∧ 0 ≤ V 137 0 ∧ V 137 0 ≤ 599) ∧ (V 106 1 = V 137 24 ∧ 0 ≤ V 137 24 ∧ V 137 24 ≤ 10)) ∧ (∀ j, 0 ≤ j → j < V 137 1 → HSK V S j) ∧ (∀ i, 0 ≤ i → i < V 137 2 → LSK V S i) ∧ (∀ t, 0 ≤ t → t < V 137 24 → V 107 t = TA t) ∧ V 106 2 = TA (V 137 24) ∧ (∀ t, 0 ≤ t → t ≤ V 137 24 → TSK V S t)
def SKD (a k : Int) : Prop := VD a k ∨ (a = 100 ∧ 10 ≤ k) ∨ (a = 137 ∧ (k ≤ 2 ∨ k = 24)) ∨ a = 101 ∨ a = 102 ∨ a = 107 ∨ (a = 106 ∧ (k = 1 ∨ k = 2)) ∨ (2000 ≤ a ∧ a < 2120 ∧ a % 10 = 0) ∨ (1000 ≤ a ∧ a < 1200 ∧ a % 10 = 0 ∧ (k = 0 ∨ (4 ≤ k ∧ k ≤ 7))) ∨ (1000 ≤ a ∧ a < 1200 ∧ a % 10 = 3 ∧ k = 3) ∨ ((a - 108) % 5000 = 0 ∧ 108 ≤ a ∧ a ≤ 50108 ∧ 2 ≤ k ∧ k ≤ 5)
theorem SK.fr {V V' : Mem} {S : Shp} (h : SK V S) (f : FRM SKD V V') : SK V' S := by
  obtain ⟨h1, h2, ⟨⟨a1, a2, a3⟩, ⟨b1, b2, b3⟩, ⟨c1, c2, c3⟩, ⟨e1, e2, e3⟩⟩, h4, h5, h6, h7, h8⟩ := h
  have F : ∀ a k, SKD a k → V' a k = V a k := f
  have g : ∀ {a k : Int}, SKD a k → V' a k = V a k := fun {a k} h => f a k h
  have q1 : V' 137 1 = V 137 1 := g (by unfold SKD; omega)
  have q2 : V' 137 2 = V 137 2 := g (by unfold SKD; omega)
  have q3 : V' 137 24 = V 137 24 := g (by unfold SKD; omega)
  have q4 : V' 137 0 = V 137 0 := g (by unfold SKD; omega)
  refine ⟨h1, h2.fr (f.sub (fun a k q => Or.inl q)), ?_, ?_, ?_, ?_, ?_, ?_⟩
  · rw [q1, q2, q3, q4, g (a := 100) (k := 10) (by unfold SKD; omega), g (a := 100) (k := 11) (by unfold SKD; omega), g (a := 100) (k := 12) (by unfold SKD; omega), g (a := 106) (k := 1) (by unfold SKD; omega)]
    exact ⟨⟨a1, a2, a3⟩, ⟨b1, b2, b3⟩, ⟨c1, c2, c3⟩, ⟨e1, e2, e3⟩⟩
  · intro j j0 j1
    rw [q1] at j1
    obtain ⟨r1, r2, r3, r4⟩ := h4 j j0 j1
    exact ⟨r1, (g (by unfold SKD; omega)).trans r2, (g (by unfold SKD; omega)).trans r3, (g (by unfold SKD; omega)).trans r4⟩
  · intro i i0 i1
    rw [q2] at i1
    obtain ⟨r1, r2, r3, r4, r5, r6, r7, r8⟩ := h5 i i0 i1
    exact ⟨r1, (g (by unfold SKD; omega)).trans r2, (g (by unfold SKD; omega)).trans r3, (g (by unfold SKD; omega)).trans r4, (g (by unfold SKD; omega)).trans r5, (g (by unfold SKD; omega)).trans r6, (g (by unfold SKD; omega)).trans r7, (g (by unfold SKD; omega)).trans r8⟩
  · intro t t0 t1
    rw [q3] at t1
    exact (g (by unfold SKD; omega)).trans (h6 t t0 t1)
  · rw [q3]
    exact (g (by unfold SKD; omega)).trans h7
  · intro t t0 t1
    rw [q3] at t1
    obtain ⟨r1, r2, r3, r4, r5⟩ := h8 t t0 t1
    exact ⟨r1, (g (by unfold SKD TA; omega)).trans r2, (g (by unfold SKD TA; omega)).trans r3, (g (by unfold SKD TA; omega)).trans r4, (g (by unfold SKD TA; omega)).trans r5⟩
