/-! what the making of the two objects writes -/
abbrev IOP : Type := Nat × Int × Int × Int
def io1 (p : Mem × Shp) : IOP → Mem × Shp
  | (0, z, κ, n) => (upo p.1 z (fun _ => 0), (upk p.2.1 z κ, upk p.2.2.1 z n, z + 1))
  | (1, a, k, v) => (up2 p.1 a k v, p.2)
  | (2, z, κ, n) => (upo p.1 z (fun _ => -1), (upk p.2.1 z κ, upk p.2.2.1 z n, z + 1))
  | (_, z, κ, _) => (upo p.1 z (dfl κ.toNat), (upk p.2.1 z κ, p.2.2.1, z + 1))
def ios (p : Mem × Shp) : List IOP → Mem × Shp
  | [] => p
  | o :: A => io1 (ios p A) o
def lkK : List IOP → Int → Int
  | [], _ => -2
  | (t, z, κ, _) :: A, a => bif Nat.beq t 1 then lkK A a else (if a = z then κ else lkK A a)
def lkN : List IOP → Int → Int
  | [], _ => -2
  | (t, z, _, n) :: A, a => bif Nat.beq t 0 || Nat.beq t 2 then (if a = z then n else lkN A a) else lkN A a
def lkC : List IOP → Int → Bool
  | [], _ => false
  | (t, z, _, _) :: A, a => (!Nat.beq t 1 && decide (a = z)) || lkC A a
def lkV : List IOP → Int → Int → Int
  | [], _, _ => 0
  | (t, z, k', v) :: A, a, k => bif Nat.beq t 1 then (if a = z ∧ k = k' then v else lkV A a k) else (if a = z then (bif Nat.beq t 0 then 0 else bif Nat.beq t 2 then -1 else dfl k'.toNat k) else lkV A a k)
def lkZ : List IOP → Int → Bool
  | [], _ => false
  | (t, z, _, _) :: A, a => bif decide (a = z) then Nat.beq t 0 else lkZ A a
def lkR (A : List IOP) : Bool := A.all (fun o => decide (100 ≤ o.2.1) && decide (o.2.1 < 183))
section IO
variable {p : Mem × Shp} {a k κ n : Int}
theorem ios_k : ∀ {A : List IOP}, lkK A a = κ → κ ≠ -2 → (ios p A).2.1 a = κ
  | [], h, h2 => absurd h.symm h2
  | (t, z, κ', n) :: A, h, h2 => by
    have ih := ios_k (A := A)
    match t, h with
    | 0, h =>
      have h : (if a = z then κ' else lkK A a) = κ := h
      show (if a = z then κ' else (ios p A).2.1 a) = κ
      by_cases c : a = z
      · rw [if_pos c] at h ⊢; exact h
      · rw [if_neg c] at h ⊢; exact ih h h2
    | 1, h => exact ih h h2
    | 2, h =>
      have h : (if a = z then κ' else lkK A a) = κ := h
      show (if a = z then κ' else (ios p A).2.1 a) = κ
      by_cases c : a = z
      · rw [if_pos c] at h ⊢; exact h
      · rw [if_neg c] at h ⊢; exact ih h h2
    | t + 3, h =>
      have h : (if a = z then κ' else lkK A a) = κ := h
      show (if a = z then κ' else (ios p A).2.1 a) = κ
      by_cases c : a = z
      · rw [if_pos c] at h ⊢; exact h
      · rw [if_neg c] at h ⊢; exact ih h h2
theorem ios_n : ∀ {A : List IOP}, lkN A a = n → n ≠ -2 → (ios p A).2.2.1 a = n
  | [], h, h2 => absurd h.symm h2
  | (t, z, κ', n') :: A, h, h2 => by
    have ih := ios_n (A := A)
    match t, h with
    | 0, h =>
      have h : (if a = z then n' else lkN A a) = n := h
      show (if a = z then n' else (ios p A).2.2.1 a) = n
      by_cases c : a = z
      · rw [if_pos c] at h ⊢; exact h
      · rw [if_neg c] at h ⊢; exact ih h h2
    | 1, h => exact ih h h2
    | 2, h =>
      have h : (if a = z then n' else lkN A a) = n := h
      show (if a = z then n' else (ios p A).2.2.1 a) = n
      by_cases c : a = z
      · rw [if_pos c] at h ⊢; exact h
      · rw [if_neg c] at h ⊢; exact ih h h2
    | t + 3, h => exact ih h h2
theorem upo_at {V : Mem} {f : Int → Int} {z : Int} : (upo V z f) a k = if a = z then f k else V a k := by
  unfold upo
  by_cases c : a = z
  · rw [if_pos c, if_pos c]
  · rw [if_neg c, if_neg c]
theorem ios_v : ∀ {A : List IOP}, lkC A a = true → (ios p A).1 a k = lkV A a k
  | [], h => by cases h
  | (t, z, k', v) :: A, h => by
    have ih := ios_v (A := A)
    match t, h with
    | 0, h =>
      have h : ((true && decide (a = z)) || lkC A a) = true := h
      show (upo (ios p A).1 z (fun _ => 0)) a k = if a = z then 0 else lkV A a k
      rw [upo_at]
      by_cases c : a = z
      · rw [if_pos c, if_pos c]
      · rw [if_neg c, if_neg c]
        rw [decide_eq_false c] at h
        exact ih h
    | 1, h =>
      have h : lkC A a = true := h
      show (if a = z ∧ k = k' then v else (ios p A).1 a k) = if a = z ∧ k = k' then v else lkV A a k
      rw [ih h]
    | 2, h =>
      have h : ((true && decide (a = z)) || lkC A a) = true := h
      show (upo (ios p A).1 z (fun _ => -1)) a k = if a = z then -1 else lkV A a k
      rw [upo_at]
      by_cases c : a = z
      · rw [if_pos c, if_pos c]
      · rw [if_neg c, if_neg c]
        rw [decide_eq_false c] at h
        exact ih h
    | t + 3, h =>
      have h : ((true && decide (a = z)) || lkC A a) = true := h
      show (upo (ios p A).1 z (dfl k'.toNat)) a k = if a = z then dfl k'.toNat k else lkV A a k
      rw [upo_at]
      by_cases c : a = z
      · rw [if_pos c, if_pos c]
      · rw [if_neg c, if_neg c]
        rw [decide_eq_false c] at h
        exact ih h
theorem ios_0 : ∀ {A : List IOP}, lkZ A a = true → (ios p A).1 a k = 0
  | [], h => by cases h
  | (t, z, k', v) :: A, h => by
    have ih := ios_0 (A := A)
    have h : (bif decide (a = z) then Nat.beq t 0 else lkZ A a) = true := h
    by_cases c : a = z
    · rw [decide_eq_true c] at h
      have e : t = 0 := Nat.eq_of_beq_eq_true h
      subst e
      show (upo (ios p A).1 z (fun _ => 0)) a k = 0
      rw [upo_at, if_pos c]
    · rw [decide_eq_false c] at h
      have h : lkZ A a = true := h
      match t with
      | 0 => show (upo (ios p A).1 z (fun _ => 0)) a k = 0; rw [upo_at, if_neg c]; exact ih h
      | 1 => show (if a = z ∧ k = k' then v else (ios p A).1 a k) = 0; rw [if_neg (fun q => c q.1)]; exact ih h
      | 2 => show (upo (ios p A).1 z (fun _ => -1)) a k = 0; rw [upo_at, if_neg c]; exact ih h
      | t + 3 => show (upo (ios p A).1 z (dfl k'.toNat)) a k = 0; rw [upo_at, if_neg c]; exact ih h
theorem ios_un : ∀ {A : List IOP}, lkR A = true → (a < 100 ∨ 183 ≤ a) → (ios p A).1 a = p.1 a ∧ (ios p A).2.1 a = p.2.1 a ∧ (ios p A).2.2.1 a = p.2.2.1 a
  | [], _, _ => ⟨rfl, rfl, rfl⟩
  | (t, z, k', v) :: A, h, ha => by
    unfold lkR at h
    rw [List.all_cons, Bool.and_eq_true, Bool.and_eq_true] at h
    obtain ⟨⟨h1, h2⟩, h3⟩ := h
    have h1 : 100 ≤ z := of_decide_eq_true h1
    have h2 : z < 183 := of_decide_eq_true h2
    obtain ⟨i1, i2, i3⟩ := ios_un (A := A) h3 ha
    have c : a ≠ z := by omega
    match t with
    | 0 => exact ⟨(upo_ne c).trans i1, (upk_ne c).trans i2, (upk_ne c).trans i3⟩
    | 1 => exact ⟨(funext (fun _ => up2_ne (Or.inl c))).trans i1, i2, i3⟩
    | 2 => exact ⟨(upo_ne c).trans i1, (upk_ne c).trans i2, (upk_ne c).trans i3⟩
    | t + 3 => exact ⟨(upo_ne c).trans i1, (upk_ne c).trans i2, i3⟩
end IO
/-- the memory is what these writes leave -/
def AT (p : Mem × Shp) (A : List IOP) (V : Mem) (S : Shp) : Prop := V = (ios p A).1 ∧ S = (ios p A).2
def lkz : List IOP → Int
  | [] => 0
  | (t, z, _, _) :: A => bif Nat.beq t 1 then lkz A else z + 1
theorem ios_z {p : Mem × Shp} {z : Int} : ∀ {A : List IOP}, lkz A = z → z ≠ 0 → (ios p A).2.2.2 = z
  | [], h, h2 => absurd h.symm h2
  | (t, z', κ', n) :: A, h, h2 => by
    match t, h with
    | 0, h => exact h
    | 1, h => exact ios_z (A := A) h h2
    | 2, h => exact h
    | t + 3, h => exact h
section ATS
variable {p : Mem × Shp} {A : List IOP} {V V1 : Mem} {S S1 : Shp} {a k κ n v z : Int} {c : Nat}
theorem AT.gz (h : AT p A V S) (hz : lkz A = z) (h2 : z ≠ 0) : S.2.2 = z := by rw [h.2]; exact ios_z hz h2
theorem AT.gk (h : AT p A V S) (hk : lkK A a = κ) (h2 : κ ≠ -2) : S.1 a = κ := by rw [h.2]; exact ios_k hk h2
theorem AT.gn (h : AT p A V S) (hk : lkN A a = n) (h2 : n ≠ -2) : S.2.1 a = n := by rw [h.2]; exact ios_n hk h2
theorem AT.gv (h : AT p A V S) (hc : lkC A a = true) : V a k = lkV A a k := by rw [h.1]; exact ios_v hc
theorem AT.n0 (h : AT p A V S) (hz : S.2.2 = z) (e1 : V1 = upo V S.2.2 (fun _ => 0)) (e2 : S1 = (upk S.1 S.2.2 κ, upk S.2.1 S.2.2 n, S.2.2 + 1)) : AT p ((0, z, κ, n) :: A) V1 S1 := by
  obtain ⟨h1, h2⟩ := h
  rw [hz] at e1 e2
  rw [h1] at e1
  rw [h2] at e2
  exact ⟨e1, e2⟩
theorem AT.n2 (h : AT p A V S) (hz : S.2.2 = z) (e1 : V1 = upo V S.2.2 (fun _ => -1)) (e2 : S1 = (upk S.1 S.2.2 κ, upk S.2.1 S.2.2 n, S.2.2 + 1)) : AT p ((2, z, κ, n) :: A) V1 S1 := by
  obtain ⟨h1, h2⟩ := h
  rw [hz] at e1 e2
  rw [h1] at e1
  rw [h2] at e2
  exact ⟨e1, e2⟩
theorem AT.n3 (h : AT p A V S) (hz : S.2.2 = z) (e1 : V1 = upo V S.2.2 (dfl c)) (e2 : S1 = (upk S.1 S.2.2 (c : Int), S.2.1, S.2.2 + 1)) : AT p ((3, z, (c : Int), 0) :: A) V1 S1 := by
  obtain ⟨h1, h2⟩ := h
  rw [hz] at e1 e2
  rw [h1] at e1
  rw [h2] at e2
  exact ⟨e1, e2⟩
theorem AT.st (h : AT p A V S) (e1 : V1 = up2 V a k v) : AT p ((1, a, k, v) :: A) V1 S := by
  obtain ⟨h1, h2⟩ := h
  rw [h1] at e1
  exact ⟨e1, h2⟩
end ATS
