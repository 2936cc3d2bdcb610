/-! the start of the law: what the two objects are as they are made -/
def s0k (a : Int) : Int := if a = 50 ∨ a = -2 ∨ a = -3 then 104 else if -8 ≤ a ∧ a ≤ -4 then 130 else -1
def s0n (a : Int) : Int := if a = -2 then 7 else if a = -3 then 21 else ((strL.getD (-4 - a).toNat 0 : Nat) : Int)
def v0c (a j : Int) : Int := if a = -2 then aboL.getD j.toNat 0 else if a = -3 then bodL.getD j.toNat 0 else (((strB.getD (-4 - a).toNat []).getD j.toNat 0).toInt)
theorem KT_neg : ∀ q ∈ KT, q.1 < 0 → s0k q.1 = q.2 := by decide +kernel
theorem ia_kt : ∀ q ∈ KT, ¬ q.1 < 0 → lkK ia207 q.1 = q.2 ∧ q.2 ≠ -2 := by decide +kernel
theorem NT_neg : ∀ q ∈ NT, q.1 < 0 → s0n q.1 = q.2 ∧ q.1 ≠ 50 := by decide +kernel
theorem NT_pos : ∀ q ∈ NT, ¬ q.1 < 0 → lkN ia207 q.1 = q.2 ∧ q.2 ≠ -2 := by decide +kernel
theorem VT_neg : ∀ q ∈ VT, q.1 < 0 → v0c q.1 q.2.1 = q.2.2 ∧ q.1 ≠ 50 := by decide +kernel
theorem VT_pos : ∀ q ∈ VT, ¬ q.1 < 0 → lkC ia207 q.1 = true ∧ lkV ia207 q.1 q.2.1 = q.2.2 := by decide +kernel
theorem ia_r : lkR ia207 = true := by decide +kernel
def lkl (A : List IOP) : Nat → Bool
  | 0 => true
  | n + 1 => decide (0 ≤ lkK A (100 + (n : Int))) && lkC A (100 + (n : Int)) && lkl A n
theorem lkl_at {A : List IOP} : ∀ {N : Nat}, lkl A N = true → ∀ n : Nat, n < N → 0 ≤ lkK A (100 + (n : Int)) ∧ lkC A (100 + (n : Int)) = true
  | 0, _, n, hn => absurd hn (Nat.not_lt_zero n)
  | N + 1, h, n, hn => by
    have h : (decide (0 ≤ lkK A (100 + (N : Int))) && lkC A (100 + (N : Int)) && lkl A N) = true := h
    rw [Bool.and_eq_true, Bool.and_eq_true] at h
    obtain ⟨⟨h1, h2⟩, h3⟩ := h
    by_cases e : n = N
    · subst e; exact ⟨of_decide_eq_true h1, h2⟩
    · exact lkl_at h3 n (by omega)
theorem ia_l : lkl ia207 83 = true := by decide +kernel
/-- references that are written are live -/
def chO (F : List IOP) : IOP → Bool
  | (0, z, κ, _) => decide (lkK F z = κ) && decide (100 ≤ κ ∧ κ ≤ 109)
  | (1, a, k, v) => !refS (lkK F a) k || decide (v = -1) || decide (100 ≤ v ∧ v < 183)
  | (2, _, _, _) => true
  | (_, z, κ, _) => decide (lkK F z = κ) && decide (0 ≤ κ ∧ κ < 13)
theorem ia_o : ia207.all (chO ia207) = true := by decide +kernel
theorem refS_p {κ k : Int} (h : 100 ≤ κ ∧ κ ≤ 109) : refS κ k = false := by
  unfold refS
  rw [decide_eq_false (show ¬ (110 ≤ κ ∧ κ < 123) by omega), decide_eq_false (show ¬ (0 ≤ κ ∧ κ < 13) by omega)]
  rfl
theorem refS_c {κ k : Int} (h : 0 ≤ κ ∧ κ < 13) (hr : refS κ k = true) : dfl κ.toNat k = -1 := by
  unfold refS at hr
  rw [decide_eq_false (show ¬ (110 ≤ κ ∧ κ < 123) by omega), decide_eq_true h] at hr
  have hr : Nat.beq (ftg (tyC κ.toNat k.toNat)) 2 = true := hr
  unfold dfl
  exact if_pos (Nat.eq_of_beq_eq_true hr)
theorem ia_ref {F : List IOP} : ∀ {A : List IOP}, A.all (chO F) = true → ∀ a k, lkC A a = true → refS (lkK F a) k = true → lkV A a k = -1 ∨ (100 ≤ lkV A a k ∧ lkV A a k < 183)
  | [], _, a, k, hc, _ => by cases hc
  | (t, z, k', v) :: A, h, a, k, hc, hr => by
    rw [List.all_cons, Bool.and_eq_true] at h
    obtain ⟨h1, h2⟩ := h
    have ih := ia_ref h2 a k
    match t, h1, hc with
    | 0, h1, hc =>
      have h1 : (decide (lkK F z = k') && decide (100 ≤ k' ∧ k' ≤ 109)) = true := h1
      rw [Bool.and_eq_true] at h1
      have hc : ((true && decide (a = z)) || lkC A a) = true := hc
      show (if a = z then (0 : Int) else lkV A a k) = -1 ∨ (100 ≤ (if a = z then (0 : Int) else lkV A a k) ∧ (if a = z then (0 : Int) else lkV A a k) < 183)
      by_cases c : a = z
      · rw [c, of_decide_eq_true h1.1, refS_p (of_decide_eq_true h1.2)] at hr
        cases hr
      · rw [decide_eq_false c] at hc
        rw [if_neg c]
        exact ih hc hr
    | 1, h1, hc =>
      have hc : lkC A a = true := hc
      have h1 : (!refS (lkK F z) k' || decide (v = -1) || decide (100 ≤ v ∧ v < 183)) = true := h1
      show (if a = z ∧ k = k' then v else lkV A a k) = -1 ∨ (100 ≤ (if a = z ∧ k = k' then v else lkV A a k) ∧ (if a = z ∧ k = k' then v else lkV A a k) < 183)
      by_cases c : a = z ∧ k = k'
      · rw [if_pos c]
        rw [c.1, c.2] at hr
        rw [hr, Bool.or_eq_true, Bool.or_eq_true] at h1
        rcases h1 with (h1 | h1) | h1
        · cases h1
        · exact Or.inl (of_decide_eq_true h1)
        · exact Or.inr (of_decide_eq_true h1)
      · rw [if_neg c]
        exact ih hc hr
    | 2, h1, hc =>
      have hc : ((true && decide (a = z)) || lkC A a) = true := hc
      show (if a = z then (-1 : Int) else lkV A a k) = -1 ∨ (100 ≤ (if a = z then (-1 : Int) else lkV A a k) ∧ (if a = z then (-1 : Int) else lkV A a k) < 183)
      by_cases c : a = z
      · rw [if_pos c]; exact Or.inl rfl
      · rw [decide_eq_false c] at hc
        rw [if_neg c]
        exact ih hc hr
    | t + 3, h1, hc =>
      have h1 : (decide (lkK F z = k') && decide (0 ≤ k' ∧ k' < 13)) = true := h1
      rw [Bool.and_eq_true] at h1
      have hc : ((true && decide (a = z)) || lkC A a) = true := hc
      show (if a = z then dfl k'.toNat k else lkV A a k) = -1 ∨ (100 ≤ (if a = z then dfl k'.toNat k else lkV A a k) ∧ (if a = z then dfl k'.toNat k else lkV A a k) < 183)
      by_cases c : a = z
      · rw [if_pos c]
        rw [c, of_decide_eq_true h1.1] at hr
        exact Or.inl (refS_c (of_decide_eq_true h1.2) hr)
      · rw [decide_eq_false c] at hc
        rw [if_neg c]
        exact ih hc hr
section STA
variable {L : Nat} {xs : Nat → Int32} {V : Mem} {S : Shp}
theorem st_k (h : AT (V0 50 xs, S0 50 L 100) ia207 V S) {a : Int} (ha : a < 100 ∨ 183 ≤ a) : S.1 a = s0k a := by
  rw [h.2, (ios_un ia_r ha).2.1]
  rfl
theorem st_n (h : AT (V0 50 xs, S0 50 L 100) ia207 V S) {a : Int} (ha : a < 100 ∨ 183 ≤ a) (h5 : a ≠ 50) : S.2.1 a = s0n a := by
  rw [h.2, (ios_un ia_r ha).2.2]
  exact if_neg h5
theorem st_v (h : AT (V0 50 xs, S0 50 L 100) ia207 V S) {a k : Int} (ha : a < 100 ∨ 183 ≤ a) (h5 : a ≠ 50) : V a k = v0c a k := by
  rw [h.1, (ios_un ia_r ha).1]
  exact if_neg h5
theorem st_0 (h : AT (V0 50 xs, S0 50 L 100) ia207 V S) {a : Int} (ha : lkZ ia207 a = true) (k : Int) : V a k = 0 := by
  rw [h.1]
  exact ios_0 ha
theorem st_c (h : AT (V0 50 xs, S0 50 L 100) ia207 V S) {a k v : Int} (hc : lkC ia207 a = true) (hv : lkV ia207 a k = v) : V a k = v := (h.gv hc).trans hv
theorem st_hi (h : AT (V0 50 xs, S0 50 L 100) ia207 V S) {a : Int} (ha : 183 ≤ a) : S.1 a = -1 := by
  rw [st_k h (Or.inr ha)]
  unfold s0k
  rw [if_neg (by omega), if_neg (by omega)]
theorem st_inv (h : AT (V0 50 xs, S0 50 L 100) ia207 V S) : INV 0 V S := by
  have c1 : V 137 1 = 0 := st_c h (by decide +kernel) (by decide +kernel)
  have c2 : V 137 2 = 0 := st_c h (by decide +kernel) (by decide +kernel)
  have c0 : V 137 0 = 0 := st_c h (by decide +kernel) (by decide +kernel)
  have c24 : V 137 24 = 0 := st_c h (by decide +kernel) (by decide +kernel)
  have c25 : V 137 25 = 0 := st_c h (by decide +kernel) (by decide +kernel)
  have x10 : V 100 10 = 0 := st_c h (by decide +kernel) (by decide +kernel)
  have x11 : V 100 11 = 0 := st_c h (by decide +kernel) (by decide +kernel)
  have x12 : V 100 12 = 0 := st_c h (by decide +kernel) (by decide +kernel)
  have t1 : V 106 1 = 0 := st_c h (by decide +kernel) (by decide +kernel)
  have t2 : V 106 2 = 108 := st_c h (by decide +kernel) (by decide +kernel)
  have hTA : TA 0 = 108 := by unfold TA; omega
  have hi : ∀ a, 183 ≤ a → S.1 a = -1 := fun a ha => st_hi h ha
  refine ⟨⟨⟨fun q hq => ?_, fun q hq => ?_⟩, fun q hq => ?_, ⟨?_, ?_, ?_, ?_⟩, ?_, ?_, ?_, ?_, ?_⟩, ⟨?_, ?_, ?_⟩, ⟨?_, ?_⟩, ⟨?_, ?_, ?_, ?_, ?_, ?_, ?_⟩, ⟨?_, ?_, ?_⟩, ⟨?_, ?_⟩, ⟨⟨?_, ?_⟩, ⟨?_, ?_⟩, ⟨?_, ?_⟩⟩, ?_, ?_⟩
  · by_cases c : q.1 < 0
    · rw [st_k h (Or.inl (by omega))]; exact KT_neg q hq c
    · obtain ⟨k1, k2⟩ := ia_kt q hq c
      exact h.gk k1 k2
  · by_cases c : q.1 < 0
    · obtain ⟨k1, k2⟩ := NT_neg q hq c
      rw [st_n h (Or.inl (by omega)) k2]; exact k1
    · obtain ⟨k1, k2⟩ := NT_pos q hq c
      exact h.gn k1 k2
  · by_cases c : q.1 < 0
    · obtain ⟨k1, k2⟩ := VT_neg q hq c
      rw [st_v h (Or.inl (by omega)) k2]; exact k1
    · obtain ⟨k1, k2⟩ := VT_pos q hq c
      exact st_c h k1 k2
  · rw [x10, c1]; omega
  · rw [x11, c2]; omega
  · rw [x12, c0]; omega
  · rw [t1, c24]; omega
  · intro j j0 j1; rw [c1] at j1; omega
  · intro j j0 j1; rw [c2] at j1; omega
  · intro j j0 j1; rw [c24] at j1; omega
  · rw [c24, hTA]; exact t2
  · intro t u0 u1
    rw [c24] at u1
    have e : t = 0 := by omega
    subst e
    unfold TSK
    rw [hTA]
    exact ⟨⟨h.gk (by decide +kernel) (by decide), h.gk (by decide +kernel) (by decide), h.gk (by decide +kernel) (by decide), h.gk (by decide +kernel) (by decide), h.gk (by decide +kernel) (by decide), h.gn (by decide +kernel) (by decide), h.gn (by decide +kernel) (by decide), h.gn (by decide +kernel) (by decide), h.gn (by decide +kernel) (by decide)⟩, st_c h (by decide +kernel) (by decide +kernel), st_c h (by decide +kernel) (by decide +kernel), st_c h (by decide +kernel) (by decide +kernel), st_c h (by decide +kernel) (by decide +kernel)⟩
  · intro a a0 a1; rw [c2] at a0; exact hi a (by omega)
  · intro a a0 a1; rw [c1] at a0; exact hi a (by omega)
  · intro t a q0 q1 a0 a1; rw [c24] at q0; unfold TA at a0; exact hi a (by omega)
  · intro j j0 j1; rw [c1] at j1; omega
  · intro j k _ _ _ _; exact st_0 h (by decide +kernel) _
  · intro i i0 i1; rw [c2] at i1; omega
  · intro i i0 i1; rw [c2] at i1; omega
  · intro i i0 i1; rw [c2] at i1; omega
  · intro i i0 i1; rw [c2] at i1; omega
  · intro i i0 i1; rw [c2] at i1; omega
  · intro i i0 i1; rw [c2] at i1; omega
  · intro i _ _
    exact ⟨st_0 h (by decide +kernel) _, st_0 h (by decide +kernel) _, st_0 h (by decide +kernel) _, st_0 h (by decide +kernel) _, st_0 h (by decide +kernel) _, st_0 h (by decide +kernel) _, st_0 h (by decide +kernel) _, st_0 h (by decide +kernel) _, st_0 h (by decide +kernel) _, st_0 h (by decide +kernel) _, fun c _ _ => st_0 h (by decide +kernel) _⟩
  · exact st_c h (by decide +kernel) (by decide +kernel)
  · exact st_c h (by decide +kernel) (by decide +kernel)
  · intro t u0 u1; rw [c24] at u1; omega
  · rw [c25, st_c h (a := 104) (k := 1) (v := 0) (by decide +kernel) (by decide +kernel)]; omega
  · intro k k0 k1; rw [c25] at k1; omega
  · rw [st_c h (a := 113) (k := 2) (v := 0) (by decide +kernel) (by decide +kernel), st_c h (a := 137) (k := 52) (v := 0) (by decide +kernel) (by decide +kernel)]; omega
  · intro f f0 f1; rw [st_c h (a := 137) (k := 52) (v := 0) (by decide +kernel) (by decide +kernel)] at f1; omega
  · rw [st_c h (a := 115) (k := 2) (v := 0) (by decide +kernel) (by decide +kernel), st_c h (a := 137) (k := 53) (v := 0) (by decide +kernel) (by decide +kernel)]; omega
  · intro f f0 f1; rw [st_c h (a := 137) (k := 53) (v := 0) (by decide +kernel) (by decide +kernel)] at f1; omega
  · rw [st_c h (a := 117) (k := 2) (v := 0) (by decide +kernel) (by decide +kernel), st_c h (a := 137) (k := 54) (v := 0) (by decide +kernel) (by decide +kernel)]; omega
  · intro f f0 f1; rw [st_c h (a := 137) (k := 54) (v := 0) (by decide +kernel) (by decide +kernel)] at f1; omega
  · have a1 : V 119 0 = 0 := st_c h (by decide +kernel) (by decide +kernel)
    have a2 : V 137 64 = 0 := st_c h (by decide +kernel) (by decide +kernel)
    exact ⟨by rw [a1, a2], by rw [a2]; omega, by rw [a2]; omega, fun k k0 k1 k2 => by rw [a2] at k2; omega⟩
  · intro t u0 u1
    have z181 : ∀ k, V 181 k = 0 := fun k => st_0 h (by decide +kernel) k
    rcases (by omega : t = 0 ∨ t = 1 ∨ t = 2 ∨ t = 3 ∨ t = 4 ∨ t = 5) with e | e | e | e | e | e <;> subst e
    · exact ⟨by rw [show (125 : Int) + 2 * 0 = 125 from by omega, st_c h (a := 125) (k := 0) (v := -1) (by decide +kernel) (by decide +kernel), st_c h (a := 179) (k := 0) (v := -1) (by decide +kernel) (by decide +kernel)]; omega, by rw [show (125 : Int) + 2 * 0 = 125 from by omega, st_c h (a := 125) (k := 1) (v := 0) (by decide +kernel) (by decide +kernel), st_0 h (a := 180) (by decide +kernel)]; omega, fun k _ _ => by rw [z181]; exact st_0 h (by decide +kernel) k⟩
    · exact ⟨by rw [show (125 : Int) + 2 * 1 = 127 from by omega, st_c h (a := 127) (k := 0) (v := -1) (by decide +kernel) (by decide +kernel), st_c h (a := 179) (k := 1) (v := -1) (by decide +kernel) (by decide +kernel)]; omega, by rw [show (125 : Int) + 2 * 1 = 127 from by omega, st_c h (a := 127) (k := 1) (v := 0) (by decide +kernel) (by decide +kernel), st_0 h (a := 180) (by decide +kernel)]; omega, fun k _ _ => by rw [z181]; exact st_0 h (by decide +kernel) k⟩
    · exact ⟨by rw [show (125 : Int) + 2 * 2 = 129 from by omega, st_c h (a := 129) (k := 0) (v := -1) (by decide +kernel) (by decide +kernel), st_c h (a := 179) (k := 2) (v := -1) (by decide +kernel) (by decide +kernel)]; omega, by rw [show (125 : Int) + 2 * 2 = 129 from by omega, st_c h (a := 129) (k := 1) (v := 0) (by decide +kernel) (by decide +kernel), st_0 h (a := 180) (by decide +kernel)]; omega, fun k _ _ => by rw [z181]; exact st_0 h (by decide +kernel) k⟩
    · exact ⟨by rw [show (125 : Int) + 2 * 3 = 131 from by omega, st_c h (a := 131) (k := 0) (v := -1) (by decide +kernel) (by decide +kernel), st_c h (a := 179) (k := 3) (v := -1) (by decide +kernel) (by decide +kernel)]; omega, by rw [show (125 : Int) + 2 * 3 = 131 from by omega, st_c h (a := 131) (k := 1) (v := 0) (by decide +kernel) (by decide +kernel), st_0 h (a := 180) (by decide +kernel)]; omega, fun k _ _ => by rw [z181]; exact st_0 h (by decide +kernel) k⟩
    · exact ⟨by rw [show (125 : Int) + 2 * 4 = 133 from by omega, st_c h (a := 133) (k := 0) (v := -1) (by decide +kernel) (by decide +kernel), st_c h (a := 179) (k := 4) (v := -1) (by decide +kernel) (by decide +kernel)]; omega, by rw [show (125 : Int) + 2 * 4 = 133 from by omega, st_c h (a := 133) (k := 1) (v := 0) (by decide +kernel) (by decide +kernel), st_0 h (a := 180) (by decide +kernel)]; omega, fun k _ _ => by rw [z181]; exact st_0 h (by decide +kernel) k⟩
    · exact ⟨by rw [show (125 : Int) + 2 * 5 = 135 from by omega, st_c h (a := 135) (k := 0) (v := -1) (by decide +kernel) (by decide +kernel), st_c h (a := 179) (k := 5) (v := -1) (by decide +kernel) (by decide +kernel)]; omega, by rw [show (125 : Int) + 2 * 5 = 135 from by omega, st_c h (a := 135) (k := 1) (v := 0) (by decide +kernel) (by decide +kernel), st_0 h (a := 180) (by decide +kernel)]; omega, fun k _ _ => by rw [z181]; exact st_0 h (by decide +kernel) k⟩
theorem st_lst (h : AT (V0 50 xs, S0 50 L 100) ia207 V S) : LST xs L 0 0 50 100 137 V S := by
  have hz : S.2.2 = 183 := h.gz (by decide +kernel) (by decide)
  have lo : ∀ a, a < 100 → S.1 a = s0k a := fun a ha => st_k h (Or.inl ha)
  have mid : ∀ a, 100 ≤ a → a < 183 → S.1 a ≠ -1 ∧ S.1 a = lkK ia207 a ∧ lkC ia207 a = true := fun a a0 a1 => by
    obtain ⟨k1, k2⟩ := lkl_at ia_l (a - 100).toNat (by omega)
    rw [show (100 : Int) + (((a - 100).toNat : Nat) : Int) = a from by omega] at k1 k2
    have k3 : S.1 a = lkK ia207 a := h.gk rfl (by omega)
    exact ⟨by rw [k3]; omega, k3, k2⟩
  have live : ∀ a, S.1 a ≠ -1 → a = 50 ∨ (-8 ≤ a ∧ a ≤ -2) ∨ (100 ≤ a ∧ a < 183) := fun a ha => by
    by_cases c : a < 100
    · rw [lo a c] at ha
      unfold s0k at ha
      by_cases c1 : a = 50 ∨ a = -2 ∨ a = -3
      · omega
      · rw [if_neg c1] at ha
        by_cases c2 : -8 ≤ a ∧ a ≤ -4
        · omega
        · rw [if_neg c2] at ha; exact absurd rfl ha
    · by_cases c3 : a < 183
      · omega
      · exact absurd (st_hi h (by omega)) ha
  have hM : RM (fun a => a) 183 V S V S := by
    refine ⟨⟨rfl, by rw [lo _ (by omega)]; decide, by rw [hz]; omega, by rw [hz]; omega⟩, fun a ha => ⟨rfl, fun _ => rfl, fun k => ⟨by unfold sv; cases refS (S.1 a) k <;> rfl, fun hr => ?_⟩⟩, fun a ha => ⟨fun _ => rfl, fun h0 => ⟨h0, by show a < S.2.2; rw [hz]; have := live a ha; omega⟩⟩, fun a c _ _ e => e, fun a a0 a1 => by rw [hz] at a0; omega, fun a a0 a1 => ?_⟩
    · rcases live a ha with e | e | e
      · rw [e, lo _ (by omega)] at hr; cases hr
      · rw [lo _ (by omega)] at hr
        exfalso
        rcases (by omega : a = -8 ∨ a = -7 ∨ a = -6 ∨ a = -5 ∨ a = -4 ∨ a = -3 ∨ a = -2) with q | q | q | q | q | q | q <;> (subst q; cases hr)
      · obtain ⟨m1, m2, m3⟩ := mid a e.1 e.2
        rw [m2] at hr
        rw [h.gv m3]
        rcases ia_ref ia_o a k m3 hr with q | q
        · exact Or.inl q
        · exact Or.inr (mid _ q.1 q.2).1
    · rw [lo _ (by omega)]
      rcases (by omega : a = -8 ∨ a = -7 ∨ a = -6 ∨ a = -5 ∨ a = -4 ∨ a = -3 ∨ a = -2) with q | q | q | q | q | q | q <;> (subst q; decide)
  refine ⟨fun a => a, 183, V, S, ⟨rfl, rfl, rfl⟩, hM, st_inv h, ⟨?_, ?_, fun k => ?_⟩, fun a ha => st_hi h (by omega)⟩
  · rw [lo _ (by omega)]; decide
  · rw [h.2, (ios_un (a := 50) ia_r (Or.inl (by omega))).2.2]
    exact s0_n (b := 50)
  · rw [h.1, (ios_un (a := 50) ia_r (Or.inl (by omega))).1]
    exact v0_b (b := 50) (k := (k : Int))
end STA
theorem lawRuns : LawRuns := lawRuns_of (fun L xs hL => ⟨60, by omega, by
  have a0 : AT (V0 50 xs, S0 50 L 100) ia0 (V0 50 xs) (S0 50 L 100) := ⟨rfl, rfl⟩
  have z0 : (S0 50 L 100).2.2 = 100 := rfl
  have fin : ∀ (g : Cnt), (g.1 : Int) ≤ 83 → (g.2 : Int) ≤ 17747 → ∀ V S, AT (V0 50 xs, S0 50 L 100) ia207 V S → K_law_law 60 (fun x _ _ => x = 1) (18, [(2, 50), (2, 100), (2, 137), (0, 0)], [], V, S, g) := fun g g1 g2 V S h =>
    law_loop hL L 0 V S g (by omega) (Int.le_refl _) (by omega) (by omega) (by omega) (st_lst h)
  rw [L_law_law_0, z0]
  refine ⟨by decide +kernel, fun V1 S1 e1 e2 => ⟨by decide +kernel, ?_⟩⟩
  have h1 : AT (V0 50 xs, S0 50 L 100) ia1 V1 S1 := AT.n3 (c := 11) a0 z0 e1 e2
  refine x_ini (V0 50 xs, S0 50 L 100) (d := 52) (fun V2 S2 h2 => ?_) V1 S1 h1
  have z2 : S2.2.2 = 137 := h2.gz (by decide +kernel) (by decide)
  refine ⟨by decide +kernel, fun V3 S3 e3 e4 => ⟨by decide +kernel, ?_⟩⟩
  rw [z2] at e3 e4 ⊢
  have h3 : AT (V0 50 xs, S0 50 L 100) ia83 V3 S3 := AT.n3 (c := 12) h2 z2 (by rw [z2]; exact e3) (by rw [z2]; exact e4)
  exact m_ini (V0 50 xs, S0 50 L 100) (d := 59) (fun V4 S4 h4 => fin _ (by decide +kernel) (by decide +kernel) V4 S4 h4) V3 S3 h3⟩)
