/-! relocation: the abstract machine doesn't see addresses -/
def rX (ρ : Int → Int) (v : XV) : XV := (v.1, bif Nat.beq v.1 2 then ρ v.2 else v.2)
def refS (K k : Int) : Bool := decide (110 ≤ K ∧ K < 123) || (decide (0 ≤ K ∧ K < 13) && Nat.beq (ftg (tyC K.toNat k.toNat)) 2)
def sv (ρ : Int → Int) (K k x : Int) : Int := bif refS K k then ρ x else x
def OKr (S : Shp) (x : Int) : Prop := x = -1 ∨ S.1 x ≠ -1
def OKv (S : Shp) (v : XV) : Prop := v.1 = 2 → OKr S v.2
def LR (ρ : Int → Int) (S : Shp) (l l' : List XV) : Prop := l' = l.map (rX ρ) ∧ ∀ v ∈ l, OKv S v
def RM (ρ : Int → Int) (B : Int) (V : Mem) (S : Shp) (V' : Mem) (S' : Shp) : Prop :=
  (ρ (-1) = -1 ∧ S.1 (-1) = -1 ∧ 0 ≤ S.2.2 ∧ 0 ≤ S'.2.2) ∧
  (∀ a, S.1 a ≠ -1 → S'.1 (ρ a) = S.1 a ∧ (100 ≤ S.1 a → S'.2.1 (ρ a) = S.2.1 a) ∧ ∀ k, V' (ρ a) k = sv ρ (S.1 a) k (V a k) ∧ (refS (S.1 a) k = true → OKr S (V a k))) ∧
  (∀ a, S.1 a ≠ -1 → (a < 0 → ρ a = a) ∧ (0 ≤ a → 0 ≤ ρ a ∧ ρ a < S'.2.2)) ∧
  (∀ a b, S.1 a ≠ -1 → S.1 b ≠ -1 → ρ a = ρ b → a = b) ∧
  (∀ a, S.2.2 ≤ a → a < B → S.1 a = -1) ∧ (∀ a, -8 ≤ a → a ≤ -2 → S.1 a ≠ -1)
def XE (ρ ρ1 : Int → Int) (S S1 : Shp) : Prop := ∀ x, OKr S x → ρ1 x = ρ x ∧ OKr S1 x
section RA
variable {ρ ρ1 ρ2 : Int → Int} {B : Int} {V V' : Mem} {S S' S1 S2 : Shp} {l l' : List XV} {v : XV}
theorem XE.rf : XE ρ ρ S S := fun _ h => ⟨rfl, h⟩
theorem XE.tr (h : XE ρ ρ1 S S1) (h2 : XE ρ1 ρ2 S1 S2) : XE ρ ρ2 S S2 := fun x hx => ⟨((h2 x (h x hx).2).1).trans (h x hx).1, (h2 x (h x hx).2).2⟩
theorem rX_ext (h : XE ρ ρ1 S S1) (hv : OKv S v) : rX ρ1 v = rX ρ v := by
  obtain ⟨t, x⟩ := v
  unfold rX
  cases ht : Nat.beq t 2 with
  | false => rfl
  | true =>
    have : t = 2 := Nat.eq_of_beq_eq_true ht
    show (t, ρ1 x) = (t, ρ x)
    rw [(h x (hv this)).1]
theorem LR.ext (hl : LR ρ S l l') (h : XE ρ ρ1 S S1) : LR ρ1 S1 l l' := by
  refine ⟨?_, fun v hv ht => (h _ (hl.2 v hv ht)).2⟩
  rw [hl.1]
  exact List.map_congr_left (fun v hv => (rX_ext h (hl.2 v hv)).symm)
theorem LR.nil : LR ρ S [] [] := ⟨rfl, fun _ h => absurd h List.not_mem_nil⟩
theorem LR.cons (hv : OKv S v) (hl : LR ρ S l l') : LR ρ S (v :: l) (rX ρ v :: l') := by
  refine ⟨by rw [hl.1]; rfl, fun u hu => ?_⟩
  rcases List.mem_cons.mp hu with rfl | h
  · exact hv
  · exact hl.2 u h
theorem LR.hd (hl : LR ρ S (v :: l) l') : OKv S v := hl.2 v List.mem_cons_self
theorem LR.tl (hl : LR ρ S (v :: l) l') : LR ρ S l (l.map (rX ρ)) := ⟨rfl, fun u hu => hl.2 u (List.mem_cons_of_mem _ hu)⟩
theorem okv_n {t : Nat} {x : Int} (h : t ≠ 2) : OKv S (t, x) := fun e => absurd e h
theorem rX_n {t : Nat} {x : Int} (h : Nat.beq t 2 = false) : rX ρ (t, x) = (t, x) := by unfold rX; rw [h]; rfl
theorem LR.num {t : Nat} {x : Int} (h : Nat.beq t 2 = false) (hl : LR ρ S l l') : LR ρ S ((t, x) :: l) ((t, x) :: l') := by
  have := LR.cons (v := (t, x)) (ρ := ρ) (okv_n (fun e => by rw [e] at h; cases h)) hl
  rw [rX_n h] at this
  exact this
theorem LR.ref {x : Int} (h : OKr S x) (hl : LR ρ S l l') : LR ρ S ((2, x) :: l) ((2, ρ x) :: l') := LR.cons (v := (2, x)) (fun _ => h) hl
theorem LR.len (hl : LR ρ S l l') : l'.length = l.length := by rw [hl.1, List.length_map]
theorem LR.drop (hl : LR ρ S l l') (n : Nat) : LR ρ S (l.drop n) (l'.drop n) := ⟨by rw [hl.1, List.map_drop], fun v hv => hl.2 v (List.mem_of_mem_drop hv)⟩
theorem LR.take (hl : LR ρ S l l') (n : Nat) : LR ρ S (l.take n) (l'.take n) := ⟨by rw [hl.1, List.map_take], fun v hv => hl.2 v (List.mem_of_mem_take hv)⟩
theorem LR.rev (hl : LR ρ S l l') : LR ρ S l.reverse l'.reverse := ⟨by rw [hl.1, List.map_reverse], fun v hv => hl.2 v (List.mem_reverse.mp hv)⟩
theorem LR.get (hl : LR ρ S l l') (n : Nat) : lgt l' n = rX ρ (lgt l n) ∧ OKv S (lgt l n) := by
  unfold lgt
  rw [List.getD_eq_getElem?_getD, List.getD_eq_getElem?_getD, hl.1, List.getElem?_map]
  cases h : l[n]? with
  | none => exact ⟨rfl, fun e => by cases e⟩
  | some v => exact ⟨rfl, hl.2 v (List.mem_of_getElem? h)⟩
theorem LR.set0 (hl : LR ρ S l l') (i : Nat) : LR ρ S (l.set i (9, 0)) (l'.set i (9, 0)) := by
  refine ⟨by rw [hl.1, List.map_set]; rfl, fun v hv => ?_⟩
  rcases List.mem_or_eq_of_mem_set hv with h | h
  · exact hl.2 v h
  · rw [h]; exact fun e => by cases e
theorem LR.forget : ∀ (dead : List Nat) {l l' : List XV}, LR ρ S l l' → LR ρ S (lforget l dead) (lforget l' dead)
  | [], _, _, h => h
  | i :: r, _, _, h => LR.forget r (h.set0 i)
theorem kl_rX (v : XV) : kl (rX ρ v) = rX ρ (kl v) := by
  obtain ⟨t, x⟩ := v
  by_cases h : t = 1
  · subst h; rfl
  · unfold rX kl
    split
    · rename_i e; exact absurd (congrArg Prod.fst e) h
    · split
      · rename_i e; exact absurd (congrArg Prod.fst e) h
      · rfl
theorem kl_ok (hv : OKv S v) : OKv S (kl v) := by
  unfold kl
  split
  · exact fun e => by cases e
  · exact hv
theorem LR.put : ∀ {l l' : List XV} (i : Nat) {v : XV}, LR ρ S l l' → OKv S v → LR ρ S (lput l i v) (lput l' i (rX ρ v))
  | [], l', i, v, h, hv => by rw [h.1]; exact LR.nil
  | a :: r, l', 0, v, h, hv => by rw [h.1]; exact LR.cons hv h.tl
  | a :: r, l', 1, v, h, hv => by
    rw [h.1]
    cases r with
    | nil =>
      have := LR.cons (ρ := ρ) (kl_ok h.hd) (LR.nil (ρ := ρ) (S := S))
      rw [← kl_rX] at this
      exact this
    | cons b q =>
      have := LR.cons (ρ := ρ) (kl_ok h.hd) (LR.cons (ρ := ρ) hv h.tl.tl)
      rw [← kl_rX] at this
      exact this
  | a :: r, l', i + 2, v, h, hv => by rw [h.1]; exact LR.cons h.hd (LR.put (i + 1) h.tl hv)
theorem cats_rX (ρ : Int → Int) : ∀ l : List XV, cats (l.map (rX ρ)) = cats l
  | [] => rfl
  | (t, x) :: r => by
    have ih := cats_rX ρ r
    match t with
    | 0 => show cats (r.map (rX ρ)) + 1 = cats r + 1; rw [ih]
    | 1 => show cats (r.map (rX ρ)) + 2 = cats r + 2; rw [ih]
    | n + 2 => show cats (r.map (rX ρ)) + 1 = cats r + 1; rw [ih]
theorem LR.cats (hl : LR ρ S l l') : cats l' = cats l := by rw [hl.1, cats_rX]
theorem entL_un (As : List XV) (n : Nat) : entL As n = (As.flatMap (fun v => bif Nat.beq v.1 1 then [v, (9, 0)] else [v])) ++ List.replicate (n - cats As) (9, 0) := rfl
theorem LR.entL (hl : LR ρ S l l') (n : Nat) : LR ρ S (entL l n) (entL l' n) := by
  have h1 : LR ρ S (l.flatMap (fun v => bif Nat.beq v.1 1 then [v, (9, 0)] else [v])) (l'.flatMap (fun v => bif Nat.beq v.1 1 then [v, (9, 0)] else [v])) := by
    rw [hl.1]
    have hk := hl.2
    clear hl
    induction l with
    | nil => exact LR.nil
    | cons a r ih =>
      have ih := ih (fun v hv => hk v (List.mem_cons_of_mem _ hv))
      rw [List.map_cons, List.flatMap_cons, List.flatMap_cons]
      have ha := hk a List.mem_cons_self
      cases h : Nat.beq a.1 1 with
      | true =>
        have e : (rX ρ a).1 = a.1 := rfl
        rw [e, h]
        exact LR.cons ha (LR.cons (v := (9, 0)) (fun e => by cases e) ih)
      | false =>
        have e : (rX ρ a).1 = a.1 := rfl
        rw [e, h]
        exact LR.cons ha ih
  rw [entL_un, entL_un, hl.cats]
  refine ⟨?_, fun v hv => ?_⟩
  · rw [List.map_append, ← h1.1, List.map_replicate]
    rfl
  · rcases List.mem_append.mp hv with h | h
    · exact h1.2 v h
    · rw [List.eq_of_mem_replicate h]; exact fun e => by cases e
theorem RM.rho (h : RM ρ B V S V' S') {x : Int} (hx : OKr S x) : (ρ x = -1 ↔ x = -1) ∧ (-1 ≤ x → -1 ≤ ρ x) := by
  rcases hx with rfl | hx
  · rw [h.1.1]; exact ⟨⟨fun _ => rfl, fun _ => rfl⟩, fun h => h⟩
  · have h2 := h.2.2.1 x hx
    have hne : x ≠ -1 := fun e => hx (by rw [e]; exact h.1.2.1)
    by_cases h0 : x < 0
    · rw [h2.1 h0]; exact ⟨Iff.rfl, fun h => h⟩
    · have := h2.2 (by omega)
      exact ⟨⟨fun e => by omega, fun e => by omega⟩, fun _ => by omega⟩
theorem RM.inj (h : RM ρ B V S V' S') {x y : Int} (hx : OKr S x) (hy : OKr S y) : ρ x = ρ y ↔ x = y := by
  refine ⟨fun e => ?_, fun e => by rw [e]⟩
  rcases hx with rfl | hx'
  · rw [h.1.1] at e
    exact (((h.rho hy).1).mp e.symm).symm
  · rcases hy with rfl | hy'
    · rw [h.1.1] at e
      exact ((h.rho (Or.inr hx')).1).mp e
    · exact h.2.2.2.1 x y hx' hy' e
theorem RM.kind (h : RM ρ B V S V' S') {x c : Int} (hk : S.1 x = c) (hc : c ≠ -1) : S'.1 (ρ x) = c := ((h.2.1 x (by rw [hk]; exact hc)).1).trans hk
theorem RM.put (h : RM ρ B V S V' S') {o b x : Int} (ho : S.1 o ≠ -1) (hx : refS (S.1 o) b = true → OKr S x) : RM ρ B (up2 V o b x) S (up2 V' (ρ o) b (sv ρ (S.1 o) b x)) S' := by
  refine ⟨h.1, fun a ha => ⟨(h.2.1 a ha).1, (h.2.1 a ha).2.1, fun k => ?_⟩, h.2.2⟩
  unfold up2
  by_cases e : a = o ∧ k = b
  · obtain ⟨rfl, rfl⟩ := e
    rw [if_pos ⟨rfl, rfl⟩, if_pos ⟨rfl, rfl⟩]
    exact ⟨rfl, hx⟩
  · rw [if_neg e, if_neg (fun q => e ⟨h.2.2.2.1 a o ha ho q.1, q.2⟩)]
    exact (h.2.1 a ha).2.2 k
theorem RM.cpy (h : RM ρ B V S V' S') {q o i j n : Int} (hq : S.1 q = 103) (ho : S.1 o = 103) : RM ρ B (cpyI V q i o j n) S (cpyI V' (ρ q) i (ρ o) j n) S' := by
  have hr : ∀ k, refS 103 k = false := fun _ => rfl
  refine ⟨h.1, fun a ha => ⟨(h.2.1 a ha).1, (h.2.1 a ha).2.1, fun k => ?_⟩, h.2.2⟩
  unfold cpyI
  by_cases e : a = o ∧ j ≤ k ∧ k < j + n
  · obtain ⟨rfl, e2⟩ := e
    rw [if_pos ⟨rfl, e2⟩, if_pos ⟨rfl, e2⟩, ho]
    have h1 := ((h.2.1 q (by rw [hq]; decide)).2.2 (i + (k - j))).1
    rw [hq] at h1
    refine ⟨h1, fun z => ?_⟩
    rw [hr] at z
    cases z
  · rw [if_neg e, if_neg (fun z => e ⟨h.2.2.2.1 a o ha (by rw [ho]; decide) z.1, z.2⟩)]
    exact (h.2.1 a ha).2.2 k
theorem RM.fresh (h : RM ρ B V S V' S') (hz : S.2.2 < B) : S.1 S.2.2 = -1 := h.2.2.2.2.1 _ (Int.le_refl _) hz
theorem RM.xnew (h : RM ρ B V S V' S') (hz : S.2.2 < B) {κ : Int} (hκ : κ ≠ -1) {N1 : Int → Int} : XE ρ (upk ρ S.2.2 S'.2.2) S (upk S.1 S.2.2 κ, N1, S.2.2 + 1) := by
  have hf := h.fresh hz
  intro x hx
  have hne : x ≠ S.2.2 := by
    rintro rfl
    rcases hx with e | e
    · have := h.1.2.2.1; omega
    · exact e hf
  refine ⟨if_neg hne, ?_⟩
  rcases hx with e | e
  · exact Or.inl e
  · exact Or.inr (by show upk S.1 S.2.2 κ x ≠ -1; unfold upk; rw [if_neg hne]; exact e)
theorem RM.new (h : RM ρ B V S V' S') (hz : S.2.2 < B) {κ : Int} (hκ : κ ≠ -1) {f : Int → Int} (hf : ∀ k, refS κ k = true → f k = -1) {N1 N1' : Int → Int} (hN : 100 ≤ κ → N1' S'.2.2 = N1 S.2.2) (hN1 : ∀ a, a ≠ S.2.2 → N1 a = S.2.1 a) (hN2 : ∀ a, a ≠ S'.2.2 → N1' a = S'.2.1 a) :
    RM (upk ρ S.2.2 S'.2.2) B (upo V S.2.2 f) (upk S.1 S.2.2 κ, N1, S.2.2 + 1) (upo V' S'.2.2 f) (upk S'.1 S'.2.2 κ, N1', S'.2.2 + 1) := by
  have hfz := h.fresh hz
  have hX := h.xnew hz hκ (N1 := N1)
  have hz0 := h.1.2.2.1
  have hz1 := h.1.2.2.2
  have key : ∀ a, upk S.1 S.2.2 κ a ≠ -1 → (a = S.2.2) ∨ (a ≠ S.2.2 ∧ S.1 a ≠ -1 ∧ ρ a ≠ S'.2.2) := by
    intro a ha
    by_cases e : a = S.2.2
    · exact Or.inl e
    · unfold upk at ha
      rw [if_neg e] at ha
      refine Or.inr ⟨e, ha, ?_⟩
      have h2 := h.2.2.1 a ha
      by_cases h0 : a < 0
      · rw [h2.1 h0]; omega
      · have := h2.2 (by omega); omega
  refine ⟨⟨?_, ?_, by show 0 ≤ S.2.2 + 1; omega, by show 0 ≤ S'.2.2 + 1; omega⟩, ?_, ?_, ?_, ?_, ?_⟩
  · exact ((hX (-1) (Or.inl rfl)).1).trans h.1.1
  · show upk S.1 S.2.2 κ (-1) = -1
    unfold upk
    rw [if_neg (by omega)]
    exact h.1.2.1
  · intro a ha
    rcases key a ha with rfl | ⟨e1, e2, e3⟩
    · show upk S'.1 S'.2.2 κ (upk ρ S.2.2 S'.2.2 S.2.2) = upk S.1 S.2.2 κ S.2.2 ∧ (100 ≤ upk S.1 S.2.2 κ S.2.2 → N1' (upk ρ S.2.2 S'.2.2 S.2.2) = N1 S.2.2) ∧ ∀ k, upo V' S'.2.2 f (upk ρ S.2.2 S'.2.2 S.2.2) k = sv (upk ρ S.2.2 S'.2.2) (upk S.1 S.2.2 κ S.2.2) k (upo V S.2.2 f S.2.2 k) ∧ (refS (upk S.1 S.2.2 κ S.2.2) k = true → OKr (upk S.1 S.2.2 κ, N1, S.2.2 + 1) (upo V S.2.2 f S.2.2 k))
      have u1 : ∀ (g : Int → Int) (p q : Int), upk g p q p = q := fun g p q => if_pos rfl
      have u2 : ∀ (g : Mem) (p : Int), upo g p f p = f := fun g p => if_pos rfl
      rw [u1, u1, u1, u2, u2]
      refine ⟨rfl, hN, fun k => ?_⟩
      unfold sv
      cases hr : refS κ k with
      | false => exact ⟨rfl, fun z => by cases z⟩
      | true =>
        rw [hf k hr]
        exact ⟨((((hX (-1) (Or.inl rfl)).1).trans h.1.1)).symm, fun _ => Or.inl rfl⟩
    · have hρ : upk ρ S.2.2 S'.2.2 a = ρ a := if_neg e1
      have hK : upk S.1 S.2.2 κ a = S.1 a := if_neg e1
      have hK' : upk S'.1 S'.2.2 κ (ρ a) = S'.1 (ρ a) := if_neg e3
      have hV : upo V S.2.2 f a = V a := if_neg e1
      have hV' : upo V' S'.2.2 f (ρ a) = V' (ρ a) := if_neg e3
      obtain ⟨g1, g2, g3⟩ := h.2.1 a e2
      show upk S'.1 S'.2.2 κ (upk ρ S.2.2 S'.2.2 a) = upk S.1 S.2.2 κ a ∧ (100 ≤ upk S.1 S.2.2 κ a → N1' (upk ρ S.2.2 S'.2.2 a) = N1 a) ∧ ∀ k, upo V' S'.2.2 f (upk ρ S.2.2 S'.2.2 a) k = sv (upk ρ S.2.2 S'.2.2) (upk S.1 S.2.2 κ a) k (upo V S.2.2 f a k) ∧ (refS (upk S.1 S.2.2 κ a) k = true → OKr (upk S.1 S.2.2 κ, N1, S.2.2 + 1) (upo V S.2.2 f a k))
      rw [hρ, hK, hK', hV, hV', hN1 a e1, hN2 _ e3]
      refine ⟨g1, g2, fun k => ?_⟩
      obtain ⟨g4, g5⟩ := g3 k
      rw [g4]
      unfold sv
      cases hr : refS (S.1 a) k with
      | false => exact ⟨rfl, fun z => by cases z⟩
      | true =>
        have := hX _ (g5 hr)
        exact ⟨this.1.symm, fun _ => this.2⟩
  · intro a ha
    rcases key a ha with rfl | ⟨e1, e2, e3⟩
    · have u1 : upk ρ S.2.2 S'.2.2 S.2.2 = S'.2.2 := if_pos rfl
      rw [u1]
      exact ⟨fun _ => by omega, fun _ => ⟨by omega, by show S'.2.2 < S'.2.2 + 1; omega⟩⟩
    · have hρ : upk ρ S.2.2 S'.2.2 a = ρ a := if_neg e1
      rw [hρ]
      have := h.2.2.1 a e2
      exact ⟨this.1, fun h0 => ⟨(this.2 h0).1, by show ρ a < S'.2.2 + 1; have := (this.2 h0).2; omega⟩⟩
  · intro a b ha hb e
    rcases key a ha with rfl | ⟨e1, e2, e3⟩
    · rcases key b hb with rfl | ⟨f1, f2, f3⟩
      · rfl
      · have u1 : upk ρ S.2.2 S'.2.2 S.2.2 = S'.2.2 := if_pos rfl
        have u2 : upk ρ S.2.2 S'.2.2 b = ρ b := if_neg f1
        rw [u1, u2] at e
        exact absurd e.symm f3
    · have u2 : upk ρ S.2.2 S'.2.2 a = ρ a := if_neg e1
      rcases key b hb with rfl | ⟨f1, f2, f3⟩
      · have u1 : upk ρ S.2.2 S'.2.2 S.2.2 = S'.2.2 := if_pos rfl
        rw [u1, u2] at e
        exact absurd e e3
      · have u3 : upk ρ S.2.2 S'.2.2 b = ρ b := if_neg f1
        rw [u2, u3] at e
        exact h.2.2.2.1 a b e2 f2 e
  · intro a ha hb
    show upk S.1 S.2.2 κ a = -1
    have ha : S.2.2 + 1 ≤ a := ha
    have u : upk S.1 S.2.2 κ a = S.1 a := if_neg (by omega)
    rw [u]
    exact h.2.2.2.2.1 a (by omega) hb
  · intro a h1 h2
    show upk S.1 S.2.2 κ a ≠ -1
    have u : upk S.1 S.2.2 κ a = S.1 a := if_neg (by omega)
    rw [u]
    exact h.2.2.2.2.2 a h1 h2
end RA
