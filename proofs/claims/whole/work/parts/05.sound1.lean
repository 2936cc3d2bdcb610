/-! what an abstract state means on the machine -/
def toA (sA : Nat → Nat) (x : Int) : Nat := if 0 ≤ x then x.toNat else sA (-2 - x).toNat
def rfo (sA : Nat → Nat) (x : Int) : Option Nat := if x = -1 then none else some (toA sA x)
def toF (sA : Nat → Nat) (t : Nat) (x : Int) : Value := match t with
  | 1 => .long (Int64.ofInt x)
  | 2 => va_rf (rfo sA x)
  | _ => .int (Int32.ofInt x)
def toV (sA : Nat → Nat) (v : XV) : Value := toF sA v.1 v.2
def clNs : List String := [RX0, RX1, RX2, RX3, RX4, RX5, RX6, RX7, RX8, RX9, RX10, RX11, RX12, RJ6, RJ13, RJ9, RL]
def clN (i : Nat) : String := clNs.getD i ""
def TFs : List u_T := [TX0, TX1, TX2, TX3, TX4, TX5, TX6, TX7, TX8, TX9, TX10, TX11, TX12]
def TF (ci : Nat) : u_T := TFs.getD ci TX0
def kty (k : Int) : Option FieldType := if k = 100 then some .int else if k = 101 then some .byte else if k = 102 then some .boolean else if k = 103 then some .long else if 110 ≤ k ∧ k < 123 then some (.object (clN (k - 110).toNat)) else none
theorem vw_at : ∀ ci, ci < 13 → vwCl[ci]? = some (clN ci, TF ci, nfC ci) := fun ci h => match ci, h with
  | 0, _ => rfl | 1, _ => rfl | 2, _ => rfl | 3, _ => rfl | 4, _ => rfl | 5, _ => rfl | 6, _ => rfl | 7, _ => rfl | 8, _ => rfl | 9, _ => rfl | 10, _ => rfl | 11, _ => rfl | 12, _ => rfl
  | n + 13, h => absurd h (by omega)
theorem ty_at : ∀ ci, ci < 13 → ∀ k, k < nfC ci → parseFieldDescriptor (TF ci k).2.2.1 = some (tyC ci k) := fun ci h => match ci, h with
  | 0, _ => tyX0_ok | 1, _ => tyX1_ok | 2, _ => tyX2_ok | 3, _ => tyX3_ok | 4, _ => tyX4_ok | 5, _ => tyX5_ok | 6, _ => tyX6_ok | 7, _ => tyX7_ok | 8, _ => tyX8_ok | 9, _ => tyX9_ok | 10, _ => tyX10_ok | 11, _ => tyX11_ok | 12, _ => tyX12_ok
  | n + 13, h => absurd h (by omega)
theorem nm_at : ∀ ci, ci < 13 → ∀ a, a < nfC ci → ∀ b, b < nfC ci → a ≠ b → (TF ci a).2.1 ≠ (TF ci b).2.1 := fun ci h => match ci, h with
  | 0, _ => nmX0 | 1, _ => nmX1 | 2, _ => nmX2 | 3, _ => nmX3 | 4, _ => nmX4 | 5, _ => nmX5 | 6, _ => nmX6 | 7, _ => nmX7 | 8, _ => nmX8 | 9, _ => nmX9 | 10, _ => nmX10 | 11, _ => nmX11 | 12, _ => nmX12
  | n + 13, h => absurd h (by omega)
theorem cat_toF (sA : Nat → Nat) (t : Nat) (x : Int) (h : t ≠ 1) : (toF sA t x).category = 1 := by
  unfold toF
  split
  · exact absurd rfl h
  · cases rfo sA x <;> rfl
  · rfl
theorem cat_toV1 (sA : Nat → Nat) (x : Int) : (toV sA (1, x)).category = 2 := rfl
theorem cats_eq (sA : Nat → Nat) : ∀ st : List XV, ((st.map (toV sA)).map fun v => v.category).sum = cats st
  | [] => rfl
  | (t, x) :: r => by
    rw [List.map_cons, List.map_cons, List.sum_cons, cats_eq sA r]
    by_cases h : t = 1
    · subst h
      show 2 + cats r = cats r + 2
      omega
    · have e : cats ((t, x) :: r) = cats r + 1 := by
        match t, h with
        | 0, _ => rfl
        | 1, h => exact absurd rfl h
        | n + 2, _ => rfl
      rw [e]
      show (toF sA t x).category + cats r = _
      rw [cat_toF sA t x h]
      omega
section PX
variable (D : va_G) (B0 : Nat) (sA : Nat → Nat)
def ObjAt (V : Mem) (S : Shp) (H : Heap) (a : Int) : Prop := ∀ ci : Nat, S.1 a = (ci : Int) → ci < 13 → 0 ≤ a ∧ B0 ≤ a.toNat ∧ t_OB a.toNat (D.1 ci) (nfC ci) (D.2 ci) H (fun k => toF sA (ftg (tyC ci k)) (V a k))
def ArrA (U : State) (V : Mem) (S : Shp) (H : Heap) (a : Int) : Prop := ∀ ty, kty (S.1 a) = some ty → 0 ≤ a ∧ B0 ≤ a.toNat ∧ 0 ≤ S.2.1 a ∧ S.2.1 a < 2147483648 ∧ ∃ cA : ClassId, ArrOfT U cA ty ∧ va_RA U cA ty ∧ H[a.toNat]? = some (arrV cA (S.2.1 a).toNat (fun j => toF sA (ftg ty) (V a j)))
def FroA (U : State) (V : Mem) (S : Shp) (H : Heap) (a : Int) : Prop := S.1 a = 104 → a ≠ -1 ∧ 0 ≤ S.2.1 a ∧ S.2.1 a < 2147483648 ∧ va_T .int (toA sA a) (S.2.1 a).toNat (fun j => .int (Int32.ofInt (V a j))) (fun q => B0 ≤ q) U H
def StrA (U : State) (V : Mem) (S : Shp) (H : Heap) (a : Int) : Prop := S.1 a = 130 → a < -3 ∧ 0 ≤ S.2.1 a ∧ S.2.1 a < 100 ∧ (∀ j : Int, 0 ≤ V a j ∧ V a j < 128) ∧ va_O "java/lang/String" (toA sA a) (fun q => B0 ≤ q) U H ∧ va_OF "java/lang/String" "coder" "B" (.int 0) (toA sA a) (fun q => B0 ≤ q) U H ∧
  va_OF "java/lang/String" "value" "[B" (.ref (toA sA (a - 100))) (toA sA a) (fun q => B0 ≤ q) U H ∧ va_T .byte (toA sA (a - 100)) (S.2.1 a).toNat (fun j => .int (Int32.ofInt (V a j))) (fun q => B0 ≤ q) U H
def PPx (U : State) (V : Mem) (S : Shp) (H : Heap) : Prop := (H.size : Int) = S.2.2 ∧ B0 ≤ H.size ∧ S.1 (-1) = -1 ∧ ∀ a : Int, ObjAt D B0 sA V S H a ∧ ArrA B0 sA U V S H a ∧ FroA B0 sA U V S H a ∧ StrA B0 sA U V S H a ∧ (S.1 a < 105 ∨ 110 ≤ S.1 a)
def strTx : List (Nat × String) := [(39, "sum "), (48, "grace "), (53, "run "), (58, "fetch "), (64, "off ")]
def CX (U : State) (H : Heap) : Prop := (∀ (c : Nat) (q : vw_C), vwCl[c]? = some q → u_Kn U q.1 q.2.1 q.2.2 (D.1 c) (D.2 c)) ∧
  (va_Z "SunLamps$Acts" "ABOVE" "[I" (.ref (sA 0)) (fun q => B0 ≤ q) U H ∧ va_Z "SunLamps$Acts" "BODIES" "[I" (.ref (sA 1)) (fun q => B0 ≤ q) U H ∧
    va_Z "java/lang/String" "COMPACT_STRINGS" "Z" (.int 1) (fun q => B0 ≤ q) U H ∧ va_Zq "jdk/internal/util/Preconditions" "SIOOBE_FORMATTER" "Ljava/util/function/BiFunction;" (fun q => B0 ≤ q) U H) ∧
  (∀ (i : Nat) (q : Nat × String), strTx[i]? = some q → vk_R RX10 q.1 q.2 (sA (2 + i)) U) ∧
  (∀ (a : String) (i : Nat) (x : MethodName) (h : String), Cond.methodLinkNest a i x h ∈ lw_tbl → va_Nw (.methodLinkNest a i x h) U) ∧
  (∀ C : String, Cond.arrayOver (.object C) ∈ lw_tbl → va_AO C U)
variable {D B0 sA}
theorem CX.kept {U : State} {H H1 : Heap} (h : CX D B0 sA U H) (hq : ∀ a : Nat, a < H.size → ¬ B0 ≤ a → H1[a]? = H[a]?) : CX D B0 sA U H1 :=
  ⟨h.1, ⟨h.2.1.1.kept hq, h.2.1.2.1.kept hq, h.2.1.2.2.1.kept hq, h.2.1.2.2.2.kept hq⟩, h.2.2⟩
theorem CX.back {s t : State} {H H1 : Heap} (h : CX D B0 sA s H) (ht : CX D B0 sA t H1) (hvm : t.vm.Alike s.vm) : CX D B0 sA s H1 :=
  ⟨h.1, ⟨ht.2.1.1.moved hvm, ht.2.1.2.1.moved hvm, ht.2.1.2.2.1.moved hvm, ht.2.1.2.2.2.moved hvm⟩, h.2.2⟩
theorem CX.warm {s U : State} {H : Heap} (h : CX D B0 sA s H) (hW : s.WarmedH U.vm) : CX D B0 sA U H :=
  ⟨fun c q hq => u_Kn_moved hW.alike (h.1 c q hq), ⟨h.2.1.1.moved hW.alike, h.2.1.2.1.moved hW.alike, h.2.1.2.2.1.moved hW.alike, h.2.1.2.2.2.moved hW.alike⟩, fun i q hq => (h.2.2.1 i q hq).warm hW, fun a i x h9 hm => (h.2.2.2.1 a i x h9 hm).warmM hW, fun C hm => (h.2.2.2.2 C hm).moved hW.alike⟩
theorem PPx.moved {u U : State} {V : Mem} {S : Shp} {H : Heap} (hvm : u.vm.Alike U.vm) (h : PPx D B0 sA u V S H) : PPx D B0 sA U V S H := by
  obtain ⟨h1, h2, h3, h4⟩ := h
  refine ⟨h1, h2, h3, fun a => ?_⟩
  obtain ⟨g1, g2, g3, g4, g5⟩ := h4 a
  refine ⟨g1, fun ty hty => ?_, fun hk => ?_, fun hk => ?_, g5⟩
  · obtain ⟨k1, k2, k3, k4, cA, k5, k6, k7⟩ := g2 ty hty
    exact ⟨k1, k2, k3, k4, cA, arrOfT_moved hvm k5, k6.moved hvm, k7⟩
  · obtain ⟨k1, k2, k3, k4⟩ := g3 hk
    exact ⟨k1, k2, k3, k4.moved hvm⟩
  · obtain ⟨k1, k2, k3, k4, k5, k6, k7, k8⟩ := g4 hk
    exact ⟨k1, k2, k3, k4, k5.moved hvm, k6.moved hvm, k7.moved hvm, k8.moved hvm⟩
theorem PPx.put {U : State} {V V' : Mem} {S : Shp} {H H1 : Heap} {a : Int} (h : PPx D B0 sA U V S H) (ha : 0 ≤ a) (hB : B0 ≤ a.toNat) (hz : H1.size = H.size) (ho : ∀ q : Nat, q ≠ a.toNat → H1[q]? = H[q]?) (hV : ∀ b, b ≠ a → V' b = V b)
    (h1 : ObjAt D B0 sA V' S H1 a) (h2 : ArrA B0 sA U V' S H1 a) (h3 : S.1 a ≠ 104) (h4 : S.1 a ≠ 130) : PPx D B0 sA U V' S H1 := by
  have hq : ∀ q : Nat, q < H.size → ¬ B0 ≤ q → H1[q]? = H[q]? := fun q _ hn => ho q (fun e => hn (by rw [e]; exact hB))
  refine ⟨by rw [hz]; exact h.1, by rw [hz]; exact h.2.1, h.2.2.1, fun b => ?_⟩
  by_cases hb : b = a
  · subst hb
    exact ⟨h1, h2, fun z => absurd z h3, fun z => absurd z h4, (h.2.2.2 b).2.2.2.2⟩
  obtain ⟨g1, g2, g3, g4, g5⟩ := h.2.2.2 b
  have hne : 0 ≤ b → b.toNat ≠ a.toNat := fun h0 e => hb (by omega)
  refine ⟨fun ci e1 e2 => ?_, fun ty hty => ?_, fun hk => ?_, fun hk => ?_, g5⟩
  · obtain ⟨k1, k2, k3⟩ := g1 ci e1 e2
    rw [hV b hb]
    exact ⟨k1, k2, k3.kept (ho _ (hne k1))⟩
  · obtain ⟨k1, k2, k3, k4, cA, k5, k6, k7⟩ := g2 ty hty
    rw [hV b hb]
    exact ⟨k1, k2, k3, k4, cA, k5, k6, by rw [ho _ (hne k1)]; exact k7⟩
  · obtain ⟨k1, k2, k3, k4⟩ := g3 hk
    rw [hV b hb]
    exact ⟨k1, k2, k3, k4.kept hq⟩
  · obtain ⟨k1, k2, k3, k4, k5, k6, k7, k8⟩ := g4 hk
    rw [hV b hb]
    exact ⟨k1, k2, k3, k4, k5.kept hq, k6.kept hq, k7.kept hq, k8.kept hq⟩
theorem PPx.push {U : State} {V V' : Mem} {S S' : Shp} {H H1 : Heap} (h : PPx D B0 sA U V S H) (hz : H1.size = H.size + 1) (ho : ∀ q : Nat, q < H.size → H1[q]? = H[q]?) (hV : ∀ b, b ≠ S.2.2 → V' b = V b) (hS1 : ∀ b, b ≠ S.2.2 → S'.1 b = S.1 b) (hS2 : ∀ b, b ≠ S.2.2 → S.1 b ≠ -1 → S'.2.1 b = S.2.1 b) (hS3 : S'.2.2 = S.2.2 + 1)
    (h1 : ObjAt D B0 sA V' S' H1 S.2.2) (h2 : ArrA B0 sA U V' S' H1 S.2.2) (h3 : S'.1 S.2.2 ≠ 104) (h4 : S'.1 S.2.2 ≠ 130) (h5 : S'.1 S.2.2 < 105 ∨ 110 ≤ S'.1 S.2.2) : PPx D B0 sA U V' S' H1 := by
  have hs := h.1
  have hq : ∀ q : Nat, q < H.size → ¬ B0 ≤ q → H1[q]? = H[q]? := fun q h9 _ => ho q h9
  refine ⟨by rw [hz, hS3, ← hs]; rfl, by rw [hz]; have := h.2.1; omega, by rw [hS1 _ (by omega)]; exact h.2.2.1, fun b => ?_⟩
  by_cases hb : b = S.2.2
  · subst hb
    exact ⟨h1, h2, fun z => absurd z h3, fun z => absurd z h4, h5⟩
  obtain ⟨g1, g2, g3, g4, g5⟩ := h.2.2.2 b
  refine ⟨fun ci e1 e2 => ?_, fun ty hty => ?_, fun hk => ?_, fun hk => ?_, by rw [hS1 b hb]; exact g5⟩
  · rw [hS1 b hb] at e1
    obtain ⟨k1, k2, k3⟩ := g1 ci e1 e2
    have hlt : b.toNat < H.size := by obtain ⟨cell, q1, -⟩ := k3; exact (Array.getElem?_eq_some_iff.mp q1).1
    rw [hV b hb]
    exact ⟨k1, k2, k3.kept (ho _ hlt)⟩
  · rw [hS1 b hb] at hty
    obtain ⟨k1, k2, k3, k4, cA, k5, k6, k7⟩ := g2 ty hty
    have hn : S.1 b ≠ -1 := by intro e; rw [e] at hty; cases hty
    rw [hV b hb, hS2 b hb hn]
    exact ⟨k1, k2, k3, k4, cA, k5, k6, by rw [ho _ (Array.getElem?_eq_some_iff.mp k7).1]; exact k7⟩
  · rw [hS1 b hb] at hk
    obtain ⟨k1, k2, k3, k4⟩ := g3 hk
    rw [hV b hb, hS2 b hb (by rw [hk]; decide)]
    exact ⟨k1, k2, k3, k4.kept hq⟩
  · rw [hS1 b hb] at hk
    obtain ⟨k1, k2, k3, k4, k5, k6, k7, k8⟩ := g4 hk
    rw [hV b hb, hS2 b hb (by rw [hk]; decide)]
    exact ⟨k1, k2, k3, k4, k5.kept hq, k6.kept hq, k7.kept hq, k8.kept hq⟩
end PX
/-! locals -/
def LOC (sA : Nat → Nat) (lsM : Array Slot) (nL : Nat) (ls : List XV) : Prop := ∃ l, lv_has lsM nL l ∧ ∀ (i : Nat) (v : XV), ls[i]? = some v → v.1 ≤ 2 → (i, toV sA v) ∈ l
theorem LOC.get {sA : Nat → Nat} {lsM : Array Slot} {nL : Nat} {ls : List XV} (h : LOC sA lsM nL ls) {i t : Nat} {x : Int} (hi : lgt ls i = (t, x)) (ht : t ≤ 2) : lsM[i]? = some (.val (toF sA t x)) := by
  obtain ⟨l, hl, hm⟩ := h
  have h1 : ls[i]? = some (t, x) := by
    unfold lgt at hi
    rw [List.getD_eq_getElem?_getD] at hi
    cases h2 : ls[i]? with
    | none => rw [h2] at hi; cases hi; omega
    | some v => rw [h2] at hi; exact congrArg some hi
  exact hl.2.2 _ (hm i (t, x) h1 ht)
theorem LOC.mem {sA : Nat → Nat} {lsM : Array Slot} {nL : Nat} {ls : List XV} (h : LOC sA lsM nL ls) : lsM.size = nL := by
  obtain ⟨l, hl, hm⟩ := h
  exact hl.1
theorem LOC.forget {sA : Nat → Nat} {lsM : Array Slot} {nL : Nat} : ∀ (dead : List Nat) {ls : List XV}, LOC sA lsM nL ls → LOC sA lsM nL (lforget ls dead)
  | [], _, h => h
  | i :: r, ls, h => by
    obtain ⟨l, hl, hm⟩ := h
    refine LOC.forget r ⟨l, hl, fun j v hj hv => ?_⟩
    rw [List.getElem?_set] at hj
    split at hj
    · split at hj
      · cases hj; exact absurd hv (by decide)
      · cases hj
    · exact hm j v hj hv
theorem kl_tag {v : XV} (h : (kl v).1 ≤ 2) : kl v = v ∧ v.1 ≠ 1 := by
  unfold kl at h ⊢
  split at h
  · exact absurd h (by decide)
  · rename_i hno
    exact ⟨rfl, fun e => hno v.2 (by rw [← e])⟩
theorem lput_get : ∀ (ls : List XV) (i : Nat) (v : XV) (j : Nat) (u : XV), (lput ls i v)[j]? = some u → (j = i ∧ u = v) ∨ (j ≠ i ∧ ((j + 1 = i ∧ ∃ w, ls[j]? = some w ∧ u = kl w) ∨ (j + 1 ≠ i ∧ ls[j]? = some u)))
  | [], i, v, j, u, h => by simp [lput] at h
  | a :: r, 0, v, 0, u, h => by
    rw [lput, List.getElem?_cons_zero] at h
    exact Or.inl ⟨rfl, (Option.some.inj h).symm⟩
  | a :: r, 0, v, j + 1, u, h => by
    rw [lput, List.getElem?_cons_succ] at h
    exact Or.inr ⟨by omega, Or.inr ⟨by omega, by rw [List.getElem?_cons_succ]; exact h⟩⟩
  | a :: r, 1, v, 0, u, h => by
    have h : some (kl a) = some u := h
    exact Or.inr ⟨by omega, Or.inl ⟨rfl, a, rfl, (Option.some.inj h).symm⟩⟩
  | a :: r, 1, v, j + 1, u, h => by
    cases r with
    | nil =>
      have h : ([] : List XV)[j]? = some u := h
      simp at h
    | cons b q =>
      have h : (v :: q)[j]? = some u := h
      cases j with
      | zero => simp at h; exact Or.inl ⟨rfl, h.symm⟩
      | succ j =>
        rw [List.getElem?_cons_succ] at h
        exact Or.inr ⟨by omega, Or.inr ⟨by omega, by rw [List.getElem?_cons_succ, List.getElem?_cons_succ]; exact h⟩⟩
  | a :: r, i + 2, v, 0, u, h => by
    rw [lput, List.getElem?_cons_zero] at h
    exact Or.inr ⟨by omega, Or.inr ⟨by omega, h⟩⟩
  | a :: r, i + 2, v, j + 1, u, h => by
    rw [lput, List.getElem?_cons_succ] at h
    rcases lput_get r (i + 1) v j u h with ⟨e, e2⟩ | ⟨e, ⟨e2, w, e3, e4⟩ | ⟨e2, e3⟩⟩
    · exact Or.inl ⟨by omega, e2⟩
    · exact Or.inr ⟨by omega, Or.inl ⟨by omega, w, by rw [List.getElem?_cons_succ]; exact e3, e4⟩⟩
    · exact Or.inr ⟨by omega, Or.inr ⟨by omega, by rw [List.getElem?_cons_succ]; exact e3⟩⟩
theorem put_mem {sA : Nat → Nat} {ls : List XV} {l : List (Nat × Value)} (hm : ∀ (i : Nat) (v : XV), ls[i]? = some v → v.1 ≤ 2 → (i, toV sA v) ∈ l) (i : Nat) (v : XV) :
    ∀ (j : Nat) (u : XV), (lput ls i v)[j]? = some u → u.1 ≤ 2 → (j, toV sA u) ∈ (i, toV sA v) :: l.filter (fun q => !(q.1 == i) && !(q.1 + 1 == i && q.2.category == 2)) := by
  intro j u hj hu
  rcases lput_get ls i v j u hj with ⟨rfl, rfl⟩ | ⟨h1, ⟨h2, w, h3, h4⟩ | ⟨h2, h3⟩⟩
  · exact List.mem_cons_self
  · subst h4
    obtain ⟨e1, e2⟩ := kl_tag hu
    rw [e1] at hu ⊢
    refine List.mem_cons_of_mem _ (List.mem_filter.mpr ⟨hm j w h3 hu, ?_⟩)
    have e3 : (toV sA w).category = 1 := cat_toF sA w.1 w.2 e2
    have e4 : (j == i) = false := by simp; omega
    simp [e3, e4]
  · refine List.mem_cons_of_mem _ (List.mem_filter.mpr ⟨hm j u h3 hu, ?_⟩)
    have e4 : (j == i) = false := by simp; omega
    simp [e4, h2]
theorem put_mem2 {sA : Nat → Nat} {ls : List XV} {l : List (Nat × Value)} (hm : ∀ (i : Nat) (v : XV), ls[i]? = some v → v.1 ≤ 2 → (i, toV sA v) ∈ l) (i : Nat) (v : XV) :
    ∀ (j : Nat) (u : XV), ((lput ls i v).set (i + 1) (9, 0))[j]? = some u → u.1 ≤ 2 → (j, toV sA u) ∈ (i, toV sA v) :: l.filter (fun q => !(q.1 == i) && (!(q.1 == i + 1) && !(q.1 + 1 == i && q.2.category == 2))) := by
  intro j u hj hu
  rw [List.getElem?_set] at hj
  split at hj
  · split at hj
    · cases hj; exact absurd hu (by decide)
    · cases hj
  · rename_i hne
    rcases List.mem_cons.mp (put_mem hm i v j u hj hu) with h | h
    · exact List.mem_cons.mpr (Or.inl h)
    · obtain ⟨h1, h2⟩ := List.mem_filter.mp h
      refine List.mem_cons_of_mem _ (List.mem_filter.mpr ⟨h1, ?_⟩)
      have e1 : (j == i + 1) = false := by simp; omega
      simp only [Bool.and_eq_true] at h2 ⊢
      refine ⟨h2.1, ?_, h2.2⟩
      show (!(j == i + 1)) = true
      rw [e1]; rfl
