/-! relocation: the step (printed by reloc2.py) -/
def CRK (ρ0 : Int → Int) (S0 : Shp) (B : Int) (mc : Cnt) (ρ : Int → Int) (V : Mem) (S : Shp) (V' : Mem) (S' : Shp) (g : Cnt) : Prop :=
  RM ρ B V S V' S' ∧ XE ρ0 ρ S0 S ∧ (g.1 ≤ mc.1 ∧ g.2 ≤ mc.2) ∧ S.2.2 + (mc.1 : Int) ≤ B + (g.1 : Int) ∧ S.2.2 ≤ S0.2.2 + (g.1 : Int)
theorem gosw_mono {x : Int} {f f' : Nat → Prop} (h : ∀ t, f t → f' t) (d : Nat) : ∀ cs, gosw x f d cs → gosw x f' d cs
  | [], q => h _ q
  | (k, t) :: r, q => ⟨fun z => h _ (q.1 z), fun z => gosw_mono h d r (q.2 z)⟩
theorem tg_ref {t : Nat} {ty : FieldType} (h : tgB t ty = true) : Nat.beq (ftg ty) 2 = Nat.beq t 2 := by
  match t, h with
  | 0, h => have h : ty = .int := of_decide_eq_true h; subst h; rfl
  | 1, h => have h : ty = .long := of_decide_eq_true h; subst h; rfl
  | 2, h => have h : ftg ty = 2 := beq_of h; rw [h]
  | 3, h => have h : ty = .boolean := of_decide_eq_true h; subst h; rfl
  | _ + 4, h => cases h
theorem refS_at {a : Nat} {b : Int} (h : a < 13) : refS (a : Int) b = Nat.beq (ftg (tyC a b.toNat)) 2 := by
  unfold refS
  have h1 : decide (110 ≤ (a : Int) ∧ (a : Int) < 123) = false := decide_eq_false (by omega)
  have h2 : decide (0 ≤ (a : Int) ∧ (a : Int) < 13) = true := decide_eq_true (by omega)
  rw [h1, h2, Int.toNat_natCast]
  rfl
theorem refS_arr {a : Nat} {b : Int} (h : a < 13) : refS (110 + (a : Int)) b = true := by
  unfold refS
  have h1 : decide (110 ≤ 110 + (a : Int) ∧ 110 + (a : Int) < 123) = true := decide_eq_true (by omega)
  rw [h1]
  rfl
section RS
variable {d : Nat} {ρ0 ρ : Int → Int} {S0 : Shp} {B : Int} {mc : Cnt} {V V' : Mem} {S S' : Shp} {g : Cnt} {ls ls' st st' : List XV} {next next' : Cfg → Prop} {ret ret' : Res → Prop} {pc : Nat}
def CallR (d : Nat) (B : Int) (ρ : Int → Int) (V : Mem) (S : Shp) (V' : Mem) (S' : Shp) : Prop := ∀ (y n k : Nat) (As As' : List XV) (w : Res), YT.any (fun q => Nat.beq q.1 y && Nat.beq q.2.1 n && Nat.beq q.2.2.1 k) = true → LR ρ S As As' → S.2.2 + ((mcc y).1 : Int) ≤ B → Run MM d y As V S w →
  ∃ (ρ1 : Int → Int) (w' : Res), Run MM d y As' V' S' w' ∧ w'.1 = w.1.map (rX ρ1) ∧ (∀ v, w.1 = some v → OKv w.2.2 v) ∧ RM ρ1 B w.2.1 w.2.2 w'.2.1 w'.2.2 ∧ XE ρ ρ1 S w.2.2 ∧ w.2.2.2.2 ≤ S.2.2 + ((mcc y).1 : Int)
def NextR (ρ0 : Int → Int) (S0 : Shp) (B : Int) (mc : Cnt) (next next' : Cfg → Prop) : Prop := ∀ (ρ1 : Int → Int) (pc : Nat) (ls ls' st st' : List XV) (V : Mem) (S : Shp) (V' : Mem) (S' : Shp) (g : Cnt), LR ρ1 S ls ls' → LR ρ1 S st st' → CRK ρ0 S0 B mc ρ1 V S V' S' g → next (pc, ls, st, V, S, g) → next' (pc, ls', st', V', S', g)
theorem CRK.put (hK : CRK ρ0 S0 B mc ρ V S V' S' g) {o b x : Int} (ho : S.1 o ≠ -1) (hx : refS (S.1 o) b = true → OKr S x) : CRK ρ0 S0 B mc ρ (up2 V o b x) S (up2 V' (ρ o) b (sv ρ (S.1 o) b x)) S' g := ⟨hK.1.put ho hx, hK.2⟩
theorem CRK.new (hK : CRK ρ0 S0 B mc ρ V S V' S' g) (hg : g.1 + 1 ≤ mc.1) {n : Nat} (hn : g.2 + n ≤ mc.2) {κ : Int} (hκ : κ ≠ -1) {f : Int → Int} (hf : ∀ k, refS κ k = true → f k = -1) {N1 N1' : Int → Int} (hN : 100 ≤ κ → N1' S'.2.2 = N1 S.2.2) (hN1 : ∀ a, a ≠ S.2.2 → N1 a = S.2.1 a) (hN2 : ∀ a, a ≠ S'.2.2 → N1' a = S'.2.1 a) :
    CRK ρ0 S0 B mc (upk ρ S.2.2 S'.2.2) (upo V S.2.2 f) (upk S.1 S.2.2 κ, N1, S.2.2 + 1) (upo V' S'.2.2 f) (upk S'.1 S'.2.2 κ, N1', S'.2.2 + 1) (g.1 + 1, g.2 + n) ∧ XE ρ (upk ρ S.2.2 S'.2.2) S (upk S.1 S.2.2 κ, N1, S.2.2 + 1) := by
  obtain ⟨hM, hX, hgg, hb1, hb2⟩ := hK
  have hz : S.2.2 < B := by omega
  refine ⟨⟨hM.new hz hκ hf hN hN1 hN2, hX.tr (hM.xnew hz hκ), ⟨hg, hn⟩, ?_, ?_⟩, hM.xnew hz hκ⟩
  · show S.2.2 + 1 + (mc.1 : Int) ≤ B + ((g.1 + 1 : Nat) : Int)
    omega
  · show S.2.2 + 1 ≤ S0.2.2 + ((g.1 + 1 : Nat) : Int)
    omega
theorem xnew_live {ρ1 : Int → Int} {κ : Int} {N1 : Int → Int} {z : Int} {f : Int → Int} (hκ : κ ≠ -1) : OKr (upk f z κ, N1, z + 1) z := Or.inr (by show upk f z κ z ≠ -1; unfold upk; rw [if_pos rfl]; exact hκ)
theorem and_r {a b : Bool} (h : (a && b) = true) : b = true := by cases a <;> first | exact h | cases h
theorem rel_exI {nx a n t n0 k0 : Nat} {ls1 ls1' : List XV} (hY : YT.any (fun q => Nat.beq q.1 a && Nat.beq q.2.1 n0 && Nat.beq q.2.2.1 k0) = true) (hL : LR ρ S ls1 ls1') (hS : LR ρ S st st') (hK : CRK ρ0 S0 B mc ρ V S V' S' g) (hn : NextR ρ0 S0 B mc next next') (hc : CallR d B ρ V S V' S')
    (h : go (fun q nx => c1R (Run MM d) nx q) (fun q nx => c0R (Run MM d) nx q) next ret (exI mc (mcc a) nx a n t ls1 st V S g)) : gq MM d next' ret' (exI mc (mcc a) nx a n t ls1' st' V' S' g) := by
  have hlen := hS.len
  have hct := (hS.drop n).cats
  have key : ∀ (w : Res), Run MM d a ((st.take n).reverse) V S w → (g.1 + (mcc a).1 ≤ mc.1 ∧ g.2 + (mcc a).2 ≤ mc.2) → next (nx, ls1, w.1.toList ++ st.drop n, w.2.1, w.2.2, (g.1 + (mcc a).1, g.2 + (mcc a).2)) →
      ∃ (w' : Res), Run MM d a ((st'.take n).reverse) V' S' w' ∧ (w'.1 = none ↔ w.1 = none) ∧ (∀ t x, w.1 = some (t, x) → ∃ x', w'.1 = some (t, x')) ∧ next' (nx, ls1', w'.1.toList ++ st'.drop n, w'.2.1, w'.2.2, (g.1 + (mcc a).1, g.2 + (mcc a).2)) := by
    intro w hR hg hnx
    obtain ⟨hM, hX, hgg, hb1, hb2⟩ := hK
    obtain ⟨ρ1, w', r1, r2, r3, r4, r5, r6⟩ := hc a _ _ _ _ w hY ((hS.take n).rev) (by omega) hR
    refine ⟨w', r1, ?_, fun t x e => ?_, ?_⟩
    · rw [r2]; cases w.1 <;> simp
    · rw [r2, e]; exact ⟨_, rfl⟩
    · refine hn ρ1 _ _ _ _ _ _ _ _ _ _ (hL.ext r5) ?_ ⟨r4, hX.tr r5, hg, ?_, ?_⟩ hnx
      · rw [r2]
        cases e : w.1 with
        | none => exact (hS.drop n).ext r5
        | some v => exact LR.cons (r3 v e) ((hS.drop n).ext r5)
      · show w.2.2.2.2 + (mc.1 : Int) ≤ B + ((g.1 + (mcc a).1 : Nat) : Int)
        omega
      · show w.2.2.2.2 ≤ S0.2.2 + ((g.1 + (mcc a).1 : Nat) : Int)
        omega
  unfold exI at h ⊢
  rw [hlen, hct]
  cases h1 : (Nat.ble n st.length && Nat.ble (cats (st.drop n)) 8) with
  | false => rw [h1] at h; exact h.elim
  | true =>
    rw [h1] at h
    simp only [cond_true] at h ⊢
    cases h2 : (Nat.beq (mcc a).1 0 && Nat.beq (mcc a).2 0) with
    | false =>
      rw [h2] at h
      simp only [cond_false] at h ⊢
      split at h
      · obtain ⟨hp, V1, S1, hR, h⟩ := h
        obtain ⟨⟨o', V1', S1'⟩, q1, q2, q3, q4⟩ := key _ hR hp h
        obtain rfl : o' = none := q2.mpr rfl
        exact And.intro hp ⟨V1', S1', q1, q4⟩
      · obtain ⟨hp, x, V1, S1, hR, h⟩ := h
        obtain ⟨⟨o', V1', S1'⟩, q1, q2, q3, q4⟩ := key _ hR hp h
        obtain ⟨x', e⟩ := q3 _ _ rfl
        have e : o' = some (_, x') := e
        subst e
        exact And.intro hp ⟨x', V1', S1', q1, q4⟩
    | true =>
      rw [h2] at h
      rw [Bool.and_eq_true] at h2
      have e1 : (mcc a).1 = 0 := Nat.eq_of_beq_eq_true h2.1
      have e2 : (mcc a).2 = 0 := Nat.eq_of_beq_eq_true h2.2
      rw [e1, e2] at key
      simp only [cond_true] at h ⊢
      split at h
      · obtain ⟨V1, S1, hR, h⟩ := h
        obtain ⟨⟨o', V1', S1'⟩, q1, q2, q3, q4⟩ := key _ hR hK.2.2.1 h
        obtain rfl : o' = none := q2.mpr rfl
        exact ⟨V1', S1', q1, q4⟩
      · obtain ⟨x, V1, S1, hR, h⟩ := h
        obtain ⟨⟨o', V1', S1'⟩, q1, q2, q3, q4⟩ := key _ hR hK.2.2.1 h
        obtain ⟨x', e⟩ := q3 _ _ rfl
        have e : o' = some (_, x') := e
        subst e
        exact ⟨x', V1', S1', q1, q4⟩
set_option maxHeartbeats 4000000 in
theorem rel_step {oc : Nat} {rt : Option FieldType} {nL : Nat} {ini : Bool} {e : Ent} (hE : okX oc rt nL ini pc e = true) (hL : LR ρ S ls ls') (hS : LR ρ S st st') (hK : CRK ρ0 S0 B mc ρ V S V' S' g) (hn : NextR ρ0 S0 B mc next next') (hc : CallR d B ρ V S V' S')
    (hr : ∀ o : Option XV, (∀ v, o = some v → OKv S v) → ret (o, V, S) → ret' (o.map (rX ρ), V', S'))
    (h : go (fun q nx => c1R (Run MM d) nx q) (fun q nx => c0R (Run MM d) nx q) next ret (ex mc e (pc, ls, st, V, S, g))) : gq MM d next' ret' (ex mc e (pc, ls', st', V', S', g)) := by
  obtain ⟨i, nx, a, b, t, dead, sw⟩ := e
  have hD := hL.forget dead
  have hM := hK.1
  have hS1 := hS.1
  cases i
  case iconst n =>
    exact hn ρ _ _ _ _ _ _ _ _ _ _ hD (LR.num rfl hS) hK h
  case bipush n =>
    exact hn ρ _ _ _ _ _ _ _ _ _ _ hD (LR.num rfl hS) hK h
  case sipush n =>
    exact hn ρ _ _ _ _ _ _ _ _ _ _ hD (LR.num rfl hS) hK h
  case ldc_w n =>
    exact hn ρ _ _ _ _ _ _ _ _ _ _ hD (LR.num rfl hS) hK h
  case ldc2_w n =>
    exact hn ρ _ _ _ _ _ _ _ _ _ _ hD (LR.num rfl hS) hK h
  case lconst n =>
    exact hn ρ _ _ _ _ _ _ _ _ _ _ hD (LR.num rfl hS) hK h
  case aconst_null =>
    have := LR.ref (ρ := ρ) (x := -1) (Or.inl rfl) hS
    rw [hM.1.1] at this
    exact hn ρ _ _ _ _ _ _ _ _ _ _ hD this hK h
  case ldc n =>
    simp only [okX, Bool.and_eq_true] at hE
    obtain ⟨h1, h2⟩ := hE
    split at h2
    · exact hn ρ _ _ _ _ _ _ _ _ _ _ hD (LR.num rfl hS) hK h
    · rw [Bool.and_eq_true, Bool.and_eq_true] at h2
      obtain ⟨⟨h3, h4⟩, h5⟩ := h2
      have h4 := of_decide_eq_true h4
      have hb8 : -8 ≤ b := by
        cases h6 : strTx[(-4 - b).toNat]? with
        | none => rw [h6] at h5; cases h5
        | some q =>
          have := (List.getElem?_eq_some_iff.mp h6).1
          have e5 : strTx.length = 5 := rfl
          omega
      have hlv := hM.2.2.2.2.2 b hb8 (by omega)
      have := LR.ref (ρ := ρ) (x := b) (Or.inr hlv) hS
      rw [(hM.2.2.1 b hlv).1 (by omega)] at this
      exact hn ρ _ _ _ _ _ _ _ _ _ _ hD this hK h
    · cases h2
  case iload n =>
    obtain ⟨e1, e2⟩ := hD.get n
    simp only [ex] at h ⊢
    rw [e1]
    generalize lgt (lforget ls dead) n = u at h e2 ⊢
    split at h
    · exact hn ρ _ _ _ _ _ _ _ _ _ _ hD (LR.num rfl hS) hK h
    · exact h.elim
  case iload_n n =>
    obtain ⟨e1, e2⟩ := hD.get n.val
    simp only [ex] at h ⊢
    rw [e1]
    generalize lgt (lforget ls dead) n.val = u at h e2 ⊢
    split at h
    · exact hn ρ _ _ _ _ _ _ _ _ _ _ hD (LR.num rfl hS) hK h
    · exact h.elim
  case lload n =>
    obtain ⟨e1, e2⟩ := hD.get n
    simp only [ex] at h ⊢
    rw [e1]
    generalize lgt (lforget ls dead) n = u at h e2 ⊢
    split at h
    · exact hn ρ _ _ _ _ _ _ _ _ _ _ hD (LR.num rfl hS) hK h
    · exact h.elim
  case lload_n n =>
    obtain ⟨e1, e2⟩ := hD.get n.val
    simp only [ex] at h ⊢
    rw [e1]
    generalize lgt (lforget ls dead) n.val = u at h e2 ⊢
    split at h
    · exact hn ρ _ _ _ _ _ _ _ _ _ _ hD (LR.num rfl hS) hK h
    · exact h.elim
  case aload n =>
    obtain ⟨e1, e2⟩ := hD.get n
    simp only [ex] at h ⊢
    rw [e1]
    generalize lgt (lforget ls dead) n = u at h e2 ⊢
    split at h
    · exact hn ρ _ _ _ _ _ _ _ _ _ _ hD (LR.ref (e2 rfl) hS) hK h
    · exact h.elim
  case aload_n n =>
    obtain ⟨e1, e2⟩ := hD.get n.val
    simp only [ex] at h ⊢
    rw [e1]
    generalize lgt (lforget ls dead) n.val = u at h e2 ⊢
    split at h
    · exact hn ρ _ _ _ _ _ _ _ _ _ _ hD (LR.ref (e2 rfl) hS) hK h
    · exact h.elim
  case istore n =>
    simp only [ex] at h ⊢
    subst hS1
    split at h
    · exact hn ρ _ _ _ _ _ _ _ _ _ _ (hD.put n hS.hd) hS.tl hK h
    · exact h.elim
  case istore_n n =>
    simp only [ex] at h ⊢
    subst hS1
    split at h
    · exact hn ρ _ _ _ _ _ _ _ _ _ _ (hD.put n.val hS.hd) hS.tl hK h
    · exact h.elim
  case lstore n =>
    simp only [ex] at h ⊢
    subst hS1
    split at h
    · exact hn ρ _ _ _ _ _ _ _ _ _ _ ((hD.put n hS.hd).set0 (n + 1)) hS.tl hK h
    · exact h.elim
  case lstore_n n =>
    simp only [ex] at h ⊢
    subst hS1
    split at h
    · exact hn ρ _ _ _ _ _ _ _ _ _ _ ((hD.put n.val hS.hd).set0 (n.val + 1)) hS.tl hK h
    · exact h.elim
  case astore n =>
    simp only [ex] at h ⊢
    subst hS1
    split at h
    · exact hn ρ _ _ _ _ _ _ _ _ _ _ (hD.put n hS.hd) hS.tl hK h
    · exact h.elim
  case astore_n n =>
    simp only [ex] at h ⊢
    subst hS1
    split at h
    · exact hn ρ _ _ _ _ _ _ _ _ _ _ (hD.put n.val hS.hd) hS.tl hK h
    · exact h.elim
  case iinc n k =>
    obtain ⟨e1, e2⟩ := hD.get n
    simp only [ex] at h ⊢
    rw [e1]
    generalize lgt (lforget ls dead) n = u at h e2 ⊢
    split at h
    · rename_i x
      exact hn ρ _ _ _ _ _ _ _ _ _ _ (hD.put n (v := (0, x + k)) (okv_n (by decide))) hS hK h
    · exact h.elim
  case iadd =>
    simp only [ex] at h ⊢
    subst hS1
    split at h
    · exact hn ρ _ _ _ _ _ _ _ _ _ _ hD (LR.num rfl hS.tl.tl) hK h
    · exact h.elim
  case isub =>
    simp only [ex] at h ⊢
    subst hS1
    split at h
    · exact hn ρ _ _ _ _ _ _ _ _ _ _ hD (LR.num rfl hS.tl.tl) hK h
    · exact h.elim
  case imul =>
    simp only [ex] at h ⊢
    subst hS1
    split at h
    · exact hn ρ _ _ _ _ _ _ _ _ _ _ hD (LR.num rfl hS.tl.tl) hK h
    · exact h.elim
  case iand =>
    simp only [ex] at h ⊢
    subst hS1
    split at h
    · exact hn ρ _ _ _ _ _ _ _ _ _ _ hD (LR.num rfl hS.tl.tl) hK h
    · exact h.elim
  case ior =>
    simp only [ex] at h ⊢
    subst hS1
    split at h
    · exact hn ρ _ _ _ _ _ _ _ _ _ _ hD (LR.num rfl hS.tl.tl) hK h
    · exact h.elim
  case ixor =>
    simp only [ex] at h ⊢
    subst hS1
    split at h
    · exact hn ρ _ _ _ _ _ _ _ _ _ _ hD (LR.num rfl hS.tl.tl) hK h
    · exact h.elim
  case ishl =>
    simp only [ex] at h ⊢
    subst hS1
    split at h
    · exact hn ρ _ _ _ _ _ _ _ _ _ _ hD (LR.num rfl hS.tl.tl) hK h
    · exact h.elim
  case ishr =>
    simp only [ex] at h ⊢
    subst hS1
    split at h
    · exact hn ρ _ _ _ _ _ _ _ _ _ _ hD (LR.num rfl hS.tl.tl) hK h
    · exact h.elim
  case iushr =>
    simp only [ex] at h ⊢
    subst hS1
    split at h
    · exact hn ρ _ _ _ _ _ _ _ _ _ _ hD (LR.num rfl hS.tl.tl) hK h
    · exact h.elim
  case ladd =>
    simp only [ex] at h ⊢
    subst hS1
    split at h
    · exact hn ρ _ _ _ _ _ _ _ _ _ _ hD (LR.num rfl hS.tl.tl) hK h
    · exact h.elim
  case lsub =>
    simp only [ex] at h ⊢
    subst hS1
    split at h
    · exact hn ρ _ _ _ _ _ _ _ _ _ _ hD (LR.num rfl hS.tl.tl) hK h
    · exact h.elim
  case lmul =>
    simp only [ex] at h ⊢
    subst hS1
    split at h
    · exact hn ρ _ _ _ _ _ _ _ _ _ _ hD (LR.num rfl hS.tl.tl) hK h
    · exact h.elim
  case land =>
    simp only [ex] at h ⊢
    subst hS1
    split at h
    · exact hn ρ _ _ _ _ _ _ _ _ _ _ hD (LR.num rfl hS.tl.tl) hK h
    · exact h.elim
  case lor =>
    simp only [ex] at h ⊢
    subst hS1
    split at h
    · exact hn ρ _ _ _ _ _ _ _ _ _ _ hD (LR.num rfl hS.tl.tl) hK h
    · exact h.elim
  case lxor =>
    simp only [ex] at h ⊢
    subst hS1
    split at h
    · exact hn ρ _ _ _ _ _ _ _ _ _ _ hD (LR.num rfl hS.tl.tl) hK h
    · exact h.elim
  case lshl =>
    simp only [ex] at h ⊢
    subst hS1
    split at h
    · exact hn ρ _ _ _ _ _ _ _ _ _ _ hD (LR.num rfl hS.tl.tl) hK h
    · exact h.elim
  case lshr =>
    simp only [ex] at h ⊢
    subst hS1
    split at h
    · exact hn ρ _ _ _ _ _ _ _ _ _ _ hD (LR.num rfl hS.tl.tl) hK h
    · exact h.elim
  case lushr =>
    simp only [ex] at h ⊢
    subst hS1
    split at h
    · exact hn ρ _ _ _ _ _ _ _ _ _ _ hD (LR.num rfl hS.tl.tl) hK h
    · exact h.elim
  case lcmp =>
    simp only [ex] at h ⊢
    subst hS1
    split at h
    · exact hn ρ _ _ _ _ _ _ _ _ _ _ hD (LR.num rfl hS.tl.tl) hK h
    · exact h.elim
  case idiv =>
    simp only [ex] at h ⊢
    subst hS1
    split at h
    · exact And.intro h.1 (hn ρ _ _ _ _ _ _ _ _ _ _ hD (LR.num rfl hS.tl.tl) hK h.2)
    · exact h.elim
  case irem =>
    simp only [ex] at h ⊢
    subst hS1
    split at h
    · exact And.intro h.1 (hn ρ _ _ _ _ _ _ _ _ _ _ hD (LR.num rfl hS.tl.tl) hK h.2)
    · exact h.elim
  case ldiv =>
    simp only [ex] at h ⊢
    subst hS1
    split at h
    · exact And.intro h.1 (hn ρ _ _ _ _ _ _ _ _ _ _ hD (LR.num rfl hS.tl.tl) hK h.2)
    · exact h.elim
  case lrem =>
    simp only [ex] at h ⊢
    subst hS1
    split at h
    · exact And.intro h.1 (hn ρ _ _ _ _ _ _ _ _ _ _ hD (LR.num rfl hS.tl.tl) hK h.2)
    · exact h.elim
  case ineg =>
    simp only [ex] at h ⊢
    subst hS1
    split at h
    · exact hn ρ _ _ _ _ _ _ _ _ _ _ hD (LR.num rfl hS.tl) hK h
    · exact h.elim
  case i2l =>
    simp only [ex] at h ⊢
    subst hS1
    split at h
    · exact hn ρ _ _ _ _ _ _ _ _ _ _ hD (LR.num rfl hS.tl) hK h
    · exact h.elim
  case l2i =>
    simp only [ex] at h ⊢
    subst hS1
    split at h
    · exact hn ρ _ _ _ _ _ _ _ _ _ _ hD (LR.num rfl hS.tl) hK h
    · exact h.elim
  case i2b =>
    simp only [ex] at h ⊢
    subst hS1
    split at h
    · exact hn ρ _ _ _ _ _ _ _ _ _ _ hD (LR.num rfl hS.tl) hK h
    · exact h.elim
  case i2s =>
    simp only [ex] at h ⊢
    subst hS1
    split at h
    · exact hn ρ _ _ _ _ _ _ _ _ _ _ hD (LR.num rfl hS.tl) hK h
    · exact h.elim
  case dup =>
    simp only [ex] at h ⊢
    subst hS1
    split at h
    · rename_i t0 x r
      cases h1 : Nat.beq t0 1 with
      | true => rw [h1] at h; exact h.elim
      | false =>
        rw [h1] at h
        have hz : gq MM d next' ret' (aN (nx, lforget ls' dead, rX ρ (t0, x) :: rX ρ (t0, x) :: r.map (rX ρ), V', S', g)) := hn ρ _ _ _ _ _ _ _ _ _ _ hD (LR.cons hS.hd hS) hK h
        show gq MM d next' ret' (bif Nat.beq t0 1 then aZ else _)
        rw [h1]
        exact hz
    · exact h.elim
  case pop =>
    simp only [ex] at h ⊢
    subst hS1
    split at h
    · rename_i t0 x r
      cases h1 : Nat.beq t0 1 with
      | true => rw [h1] at h; exact h.elim
      | false =>
        rw [h1] at h
        have hz : gq MM d next' ret' (aN (nx, lforget ls' dead, r.map (rX ρ), V', S', g)) := hn ρ _ _ _ _ _ _ _ _ _ _ hD hS.tl hK h
        show gq MM d next' ret' (bif Nat.beq t0 1 then aZ else _)
        rw [h1]
        exact hz
    · exact h.elim
  case dup2 =>
    simp only [ex] at h ⊢
    subst hS1
    split at h
    · exact hn ρ _ _ _ _ _ _ _ _ _ _ hD (LR.num rfl hS) hK h
    · rename_i t1 y t0 x r hne
      cases h1 : Nat.beq t0 1 with
      | true => rw [h1] at h; exact h.elim
      | false =>
        rw [h1] at h
        have hz : gq MM d next' ret' (aN (nx, lforget ls' dead, rX ρ (t1, y) :: rX ρ (t0, x) :: rX ρ (t1, y) :: rX ρ (t0, x) :: r.map (rX ρ), V', S', g)) := hn ρ _ _ _ _ _ _ _ _ _ _ hD (LR.cons hS.hd (LR.cons hS.tl.hd hS)) hK h
        split
        · rename_i e; exact absurd (congrArg Prod.fst (List.cons.inj e).1) hne
        · rename_i e
          cases e
          show gq MM d next' ret' (bif Nat.beq t0 1 then aZ else _)
          rw [h1]
          exact hz
        · rename_i e1 e2; exact absurd rfl (e2 _ _ _ _ _)
    · exact h.elim
  case dup_x1 =>
    simp only [ex] at h ⊢
    subst hS1
    split at h
    · rename_i t1 y t0 x r
      cases h1 : Nat.beq t0 1 with
      | true => rw [h1] at h; exact h.elim
      | false =>
        rw [h1] at h
        cases h2 : Nat.beq t1 1 with
        | true => rw [h2] at h; exact h.elim
        | false =>
          rw [h2] at h
          have hz : gq MM d next' ret' (aN (nx, lforget ls' dead, rX ρ (t1, y) :: rX ρ (t0, x) :: rX ρ (t1, y) :: r.map (rX ρ), V', S', g)) := hn ρ _ _ _ _ _ _ _ _ _ _ hD (LR.cons hS.hd (LR.cons hS.tl.hd (LR.cons hS.hd hS.tl.tl))) hK h
          show gq MM d next' ret' (bif Nat.beq t0 1 then aZ else bif Nat.beq t1 1 then aZ else _)
          rw [h1, h2]
          exact hz
    · exact h.elim
  case ifCond cd off =>
    simp only [ex] at h ⊢
    subst hS1
    split at h
    · cases cd <;> exact And.intro (fun z => hn ρ _ _ _ _ _ _ _ _ _ _ hD hS.tl hK (h.1 z)) (fun z => hn ρ _ _ _ _ _ _ _ _ _ _ hD hS.tl hK (h.2 z))
    · exact h.elim
  case if_icmp cd off =>
    simp only [ex] at h ⊢
    subst hS1
    split at h
    · cases cd <;> exact And.intro (fun z => hn ρ _ _ _ _ _ _ _ _ _ _ hD hS.tl.tl hK (h.1 z)) (fun z => hn ρ _ _ _ _ _ _ _ _ _ _ hD hS.tl.tl hK (h.2 z))
    · exact h.elim
  case if_acmp cd off =>
    simp only [ex] at h ⊢
    subst hS1
    split at h
    · rename_i y x r
      have hi := hM.inj (hS.tl.hd rfl) (hS.hd rfl)
      have r1 := (hM.rho (hS.tl.hd rfl)).2
      have r2 := (hM.rho (hS.hd rfl)).2
      cases ht : Nat.beq t 2 with
      | false => rw [ht] at h; cases cd <;> exact h.elim
      | true =>
        rw [ht] at h
        cases cd
        · exact And.intro (And.intro (r1 h.1.1) (r2 h.1.2)) (And.intro (fun z => hn ρ _ _ _ _ _ _ _ _ _ _ hD hS.tl.tl hK (h.2.1 (hi.mp z))) (fun z => hn ρ _ _ _ _ _ _ _ _ _ _ hD hS.tl.tl hK (h.2.2 (fun q => z (hi.mpr q)))))
        · exact And.intro (And.intro (r1 h.1.1) (r2 h.1.2)) (And.intro (fun z => hn ρ _ _ _ _ _ _ _ _ _ _ hD hS.tl.tl hK (h.2.1 (hi.mp z))) (fun z => hn ρ _ _ _ _ _ _ _ _ _ _ hD hS.tl.tl hK (h.2.2 (fun q => z (hi.mpr q)))))
    · exact h.elim
  case ifnull off =>
    simp only [ex] at h ⊢
    subst hS1
    split at h
    · have hi := (hM.rho (hS.hd rfl)).1
      exact And.intro (fun z => hn ρ _ _ _ _ _ _ _ _ _ _ hD hS.tl hK (h.1 (hi.mp z))) (fun z => hn ρ _ _ _ _ _ _ _ _ _ _ hD hS.tl hK (h.2 (fun q => z (hi.mpr q))))
    · exact h.elim
  case ifnonnull off =>
    simp only [ex] at h ⊢
    subst hS1
    split at h
    · have hi := (hM.rho (hS.hd rfl)).1
      exact And.intro (fun z => hn ρ _ _ _ _ _ _ _ _ _ _ hD hS.tl hK (h.1 (hi.mp z))) (fun z => hn ρ _ _ _ _ _ _ _ _ _ _ hD hS.tl hK (h.2 (fun q => z (hi.mpr q))))
    · exact h.elim
  case goto off =>
    exact hn ρ _ _ _ _ _ _ _ _ _ _ hD hS hK h
  case tableswitch df lo hi offs =>
    simp only [ex] at h ⊢
    subst hS1
    split at h
    · exact gosw_mono (fun q hq => hn ρ _ _ _ _ _ _ _ _ _ _ hD hS.tl hK hq) a sw h
    · exact h.elim
  case lookupswitch df ps =>
    simp only [ex] at h ⊢
    subst hS1
    split at h
    · exact gosw_mono (fun q hq => hn ρ _ _ _ _ _ _ _ _ _ _ hD hS.tl hK hq) a sw h
    · exact h.elim
  case getfield n =>
    simp only [okX, okB, Bool.and_eq_true, decide_eq_true_eq] at hE
    obtain ⟨⟨h1, h2, h3⟩, h4⟩ := hE
    obtain ⟨f1, f2, f3⟩ := FLT_at (by simpa only [Bool.and_eq_true] using h2)
    have hrf : refS (a : Int) b = Nat.beq t 2 := (refS_at f2).trans (tg_ref h4)
    simp only [ex] at h ⊢
    subst hS1
    split at h
    · rename_i o r
      have key : S.1 o = (a : Int) → S'.1 (ρ o) = (a : Int) ∧ V' (ρ o) b = (bif Nat.beq t 2 then ρ (V o b) else V o b) ∧ (Nat.beq t 2 = true → OKr S (V o b)) := by
        intro ho
        have hlv : S.1 o ≠ -1 := by rw [ho]; omega
        obtain ⟨g1, g2, g3⟩ := hM.2.1 o hlv
        obtain ⟨g4, g5⟩ := g3 b
        rw [ho] at g1 g4 g5
        unfold sv at g4
        rw [hrf] at g4 g5
        exact ⟨g1, g4, g5⟩
      split at h
      · obtain ⟨k1, k2, k3⟩ := key h.1
        have k2 : V' (ρ o) b = V o b := k2
        refine And.intro k1 ?_
        have := hn ρ _ _ _ _ _ _ _ _ _ _ hD (LR.num (t := 1) (x := V o b) rfl hS.tl) hK h.2
        rw [← k2] at this
        exact this
      · obtain ⟨k1, k2, k3⟩ := key h.1
        have k2 : V' (ρ o) b = ρ (V o b) := k2
        refine And.intro k1 ?_
        have := hn ρ _ _ _ _ _ _ _ _ _ _ hD (LR.ref (k3 rfl) hS.tl) hK h.2
        rw [← k2] at this
        exact this
      · rename_i t2 n1 n2
        have hz := key (by exact h.1)
        have ht2 : Nat.beq t 2 = false := by
          cases q : Nat.beq t 2 with
          | false => rfl
          | true => exact absurd (beq_of q) n2
        rw [ht2] at hz
        obtain ⟨k1, k2, k3⟩ := hz
        have k2 : V' (ρ o) b = V o b := k2
        have hw := hn ρ _ _ _ _ _ _ _ _ _ _ hD (LR.num (t := 0) (x := V o b) rfl hS.tl) hK h.2
        rw [← k2] at hw
        match t, n1, n2 with
        | 0, _, _ => exact And.intro k1 hw
        | 1, n1, _ => exact absurd rfl n1
        | 2, _, n2 => exact absurd rfl n2
        | _ + 3, _, _ => exact And.intro k1 hw
    · exact h.elim
  case putfield n =>
    simp only [okX, okB, Bool.and_eq_true, decide_eq_true_eq] at hE
    obtain ⟨⟨⟨h1, h2, h3⟩, h4⟩, h7⟩ := hE
    obtain ⟨f1, f2, f3⟩ := FLT_at (by simpa only [Bool.and_eq_true] using h2)
    have hrf : refS (a : Int) b = Nat.beq t 2 := (refS_at f2).trans (tg_ref h4)
    simp only [ex] at h ⊢
    subst hS1
    have key : ∀ o x : Int, S.1 o = (a : Int) → (Nat.beq t 2 = true → OKr S x) → S'.1 (ρ o) = (a : Int) ∧ CRK ρ0 S0 B mc ρ (up2 V o b x) S (up2 V' (ρ o) b (bif Nat.beq t 2 then ρ x else x)) S' g := by
      intro o x ho hx
      have hlv : S.1 o ≠ -1 := by rw [ho]; omega
      have hq := hK.put (b := b) (x := x) hlv (fun z => hx (by rw [ho, hrf] at z; exact z))
      unfold sv at hq
      rw [ho, hrf] at hq
      exact ⟨hM.kind ho (by omega), hq⟩
    match t, h4, hrf, key, h with
    | 0, h4, hrf, key, h =>
      simp only at h ⊢
      split at h
      · obtain ⟨g1, g2⟩ := h
        obtain ⟨k1, k2⟩ := key _ _ g1 (fun z => by cases z)
        exact And.intro k1 (fun V1 e => by subst e; exact hn ρ _ _ _ _ _ _ _ _ _ _ hD hS.tl.tl k2 (g2 _ rfl))
      · exact h.elim
    | 1, h4, hrf, key, h =>
      simp only at h ⊢
      split at h
      · obtain ⟨g1, g2⟩ := h
        obtain ⟨k1, k2⟩ := key _ _ g1 (fun z => by cases z)
        exact And.intro k1 (fun V1 e => by subst e; exact hn ρ _ _ _ _ _ _ _ _ _ _ hD hS.tl.tl k2 (g2 _ rfl))
      · exact h.elim
    | 2, h4, hrf, key, h =>
      simp only at h ⊢
      split at h
      · obtain ⟨g1, g2⟩ := h
        obtain ⟨k1, k2⟩ := key _ _ g1 (fun _ => hS.hd rfl)
        exact And.intro k1 (fun V1 e => by subst e; exact hn ρ _ _ _ _ _ _ _ _ _ _ hD hS.tl.tl k2 (g2 _ rfl))
      · exact h.elim
    | 3, h4, hrf, key, h =>
      simp only at h ⊢
      split at h
      · obtain ⟨⟨g1, g3⟩, g2⟩ := h
        obtain ⟨k1, k2⟩ := key _ _ g1 (fun z => by cases z)
        exact And.intro (And.intro k1 g3) (fun V1 e => by subst e; exact hn ρ _ _ _ _ _ _ _ _ _ _ hD hS.tl.tl k2 (g2 _ rfl))
      · exact h.elim
    | _ + 4, h4, _, _, _ => cases h4
  case getstatic n =>
    simp only [okX, Bool.and_eq_true, decide_eq_true_eq] at hE
    obtain ⟨⟨h1, h2⟩, h3⟩ := hE
    obtain ⟨f1, f2⟩ := SFL_at (i := (-2 - b).toNat) (by simpa only [Bool.and_eq_true] using h2)
    have hlv := hM.2.2.2.2.2 b (by omega) h3
    have := LR.ref (ρ := ρ) (x := b) (Or.inr hlv) hS
    rw [(hM.2.2.1 b hlv).1 (by omega)] at this
    exact hn ρ _ _ _ _ _ _ _ _ _ _ hD this hK h
  case arraylength =>
    simp only [ex] at h ⊢
    subst hS1
    split at h
    · rename_i o r
      obtain ⟨⟨g1, g1'⟩, g2⟩ := h
      have hlv : S.1 o ≠ -1 := by omega
      obtain ⟨k1, k2, k3⟩ := hM.2.1 o hlv
      have hp : 100 ≤ S'.1 (ρ o) ∧ S'.1 (ρ o) < 123 := by rw [k1]; exact ⟨g1, g1'⟩
      refine And.intro hp ?_
      have := hn ρ _ _ _ _ _ _ _ _ _ _ hD (LR.num (t := 0) (x := S.2.1 o) rfl hS.tl) hK g2
      rw [← k2 g1] at this
      exact this
    · exact h.elim
  case iaload =>
    simp only [ex] at h ⊢
    subst hS1
    split at h
    · rename_i j o r
      obtain ⟨⟨g1, g3, g4⟩, g2⟩ := h
      have hlv : S.1 o ≠ -1 ∧ 100 ≤ S.1 o ∧ refS (S.1 o) (s32 j) = false := by
        rcases g1 with g1 | g1 <;> (rw [g1]; exact ⟨by decide, by decide, rfl⟩)
      obtain ⟨k1, k2, k3⟩ := hM.2.1 o hlv.1
      have k4 := (k3 (s32 j)).1
      unfold sv at k4
      rw [hlv.2.2] at k4
      have k4 : V' (ρ o) (s32 j) = V o (s32 j) := k4
      have hp : (S'.1 (ρ o) = 100 ∨ S'.1 (ρ o) = 104) ∧ 0 ≤ s32 j ∧ s32 j < S'.2.1 (ρ o) := by rw [k1, k2 hlv.2.1]; exact ⟨g1, g3, g4⟩
      refine And.intro hp ?_
      have := hn ρ _ _ _ _ _ _ _ _ _ _ hD (LR.num (t := 0) (x := V o (s32 j)) rfl hS.tl.tl) hK g2
      rw [← k4] at this
      exact this
    · exact h.elim
  case baload =>
    simp only [ex] at h ⊢
    subst hS1
    split at h
    · rename_i j o r
      obtain ⟨⟨g1, g3, g4⟩, g2⟩ := h
      have hlv : S.1 o ≠ -1 ∧ 100 ≤ S.1 o ∧ refS (S.1 o) (s32 j) = false := by
        rcases g1 with g1 | g1 <;> (rw [g1]; exact ⟨by decide, by decide, rfl⟩)
      obtain ⟨k1, k2, k3⟩ := hM.2.1 o hlv.1
      have k4 := (k3 (s32 j)).1
      unfold sv at k4
      rw [hlv.2.2] at k4
      have k4 : V' (ρ o) (s32 j) = V o (s32 j) := k4
      have hp : (S'.1 (ρ o) = 101 ∨ S'.1 (ρ o) = 102) ∧ 0 ≤ s32 j ∧ s32 j < S'.2.1 (ρ o) := by rw [k1, k2 hlv.2.1]; exact ⟨g1, g3, g4⟩
      refine And.intro hp ?_
      have := hn ρ _ _ _ _ _ _ _ _ _ _ hD (LR.num (t := 0) (x := V o (s32 j)) rfl hS.tl.tl) hK g2
      rw [← k4] at this
      exact this
    · exact h.elim
  case laload =>
    simp only [ex] at h ⊢
    subst hS1
    split at h
    · rename_i j o r
      obtain ⟨⟨g1, g3, g4⟩, g2⟩ := h
      have hlv : S.1 o ≠ -1 ∧ 100 ≤ S.1 o ∧ refS (S.1 o) (s32 j) = false := by
        rw [g1]; exact ⟨by decide, by decide, rfl⟩
      obtain ⟨k1, k2, k3⟩ := hM.2.1 o hlv.1
      have k4 := (k3 (s32 j)).1
      unfold sv at k4
      rw [hlv.2.2] at k4
      have k4 : V' (ρ o) (s32 j) = V o (s32 j) := k4
      have hp : (S'.1 (ρ o) = 103) ∧ 0 ≤ s32 j ∧ s32 j < S'.2.1 (ρ o) := by rw [k1, k2 hlv.2.1]; exact ⟨g1, g3, g4⟩
      refine And.intro hp ?_
      have := hn ρ _ _ _ _ _ _ _ _ _ _ hD (LR.num (t := 1) (x := V o (s32 j)) rfl hS.tl.tl) hK g2
      rw [← k4] at this
      exact this
    · exact h.elim
  case aaload =>
    have hE : (Nat.beq nx (pc + 1) && Nat.blt a 13) = true := hE
    rw [Bool.and_eq_true] at hE
    have ha := blt_of hE.2
    simp only [ex] at h ⊢
    subst hS1
    split at h
    · rename_i j o r
      obtain ⟨⟨g1, g3, g4⟩, g2⟩ := h
      have hlv : S.1 o ≠ -1 := by omega
      have hrf : refS (S.1 o) (s32 j) = true := by rw [g1]; exact refS_arr ha
      obtain ⟨k1, k2, k3⟩ := hM.2.1 o hlv
      obtain ⟨k4, k5⟩ := k3 (s32 j)
      unfold sv at k4
      rw [hrf] at k4
      have k4 : V' (ρ o) (s32 j) = ρ (V o (s32 j)) := k4
      have hp : S'.1 (ρ o) = 110 + (a : Int) ∧ 0 ≤ s32 j ∧ s32 j < S'.2.1 (ρ o) := by rw [k1, k2 (by omega)]; exact ⟨g1, g3, g4⟩
      refine And.intro hp ?_
      have := hn ρ _ _ _ _ _ _ _ _ _ _ hD (LR.ref (k5 hrf) hS.tl.tl) hK g2
      rw [← k4] at this
      exact this
    · exact h.elim
  case iastore =>
    simp only [ex] at h ⊢
    subst hS1
    split at h
    · rename_i x j o r
      obtain ⟨⟨g1, g3, g4⟩, g2⟩ := h
      have hlv : S.1 o ≠ -1 := by rw [g1]; decide
      obtain ⟨k1, k2, k3⟩ := hM.2.1 o hlv
      have hq := hK.put (b := s32 j) (x := x) hlv (fun z => by rw [g1] at z; cases z)
      unfold sv at hq
      rw [g1] at hq
      have hN := k2 (by rw [g1]; decide)
      exact And.intro (show S'.1 (ρ o) = 100 ∧ 0 ≤ s32 j ∧ s32 j < S'.2.1 (ρ o) by rw [k1, hN]; exact ⟨g1, g3, g4⟩) (fun V1 e => by subst e; exact hn ρ _ _ _ _ _ _ _ _ _ _ hD hS.tl.tl.tl hq (g2 _ rfl))
    · exact h.elim
  case lastore =>
    simp only [ex] at h ⊢
    subst hS1
    split at h
    · rename_i x j o r
      obtain ⟨⟨g1, g3, g4⟩, g2⟩ := h
      have hlv : S.1 o ≠ -1 := by rw [g1]; decide
      obtain ⟨k1, k2, k3⟩ := hM.2.1 o hlv
      have hq := hK.put (b := s32 j) (x := x) hlv (fun z => by rw [g1] at z; cases z)
      unfold sv at hq
      rw [g1] at hq
      have hN := k2 (by rw [g1]; decide)
      exact And.intro (show S'.1 (ρ o) = 103 ∧ 0 ≤ s32 j ∧ s32 j < S'.2.1 (ρ o) by rw [k1, hN]; exact ⟨g1, g3, g4⟩) (fun V1 e => by subst e; exact hn ρ _ _ _ _ _ _ _ _ _ _ hD hS.tl.tl.tl hq (g2 _ rfl))
    · exact h.elim
  case bastore =>
    simp only [ex] at h ⊢
    subst hS1
    split at h
    · rename_i x j o r
      match t, h with
      | 0, h =>
        obtain ⟨⟨g1, g3, g4⟩, g2⟩ := h
        have hlv : S.1 o ≠ -1 := by rw [g1]; decide
        obtain ⟨k1, k2, k3⟩ := hM.2.1 o hlv
        have hq := hK.put (b := s32 j) (x := x.bmod 256) hlv (fun z => by rw [g1] at z; cases z)
        unfold sv at hq
        rw [g1] at hq
        have hN := k2 (by rw [g1]; decide)
        exact And.intro (show S'.1 (ρ o) = 101 ∧ 0 ≤ s32 j ∧ s32 j < S'.2.1 (ρ o) by rw [k1, hN]; exact ⟨g1, g3, g4⟩) (fun V1 e => by subst e; exact hn ρ _ _ _ _ _ _ _ _ _ _ hD hS.tl.tl.tl hq (g2 _ rfl))
      | _ + 1, h =>
        obtain ⟨⟨⟨g1, g3, g4⟩, g5⟩, g2⟩ := h
        have hlv : S.1 o ≠ -1 := by rw [g1]; decide
        obtain ⟨k1, k2, k3⟩ := hM.2.1 o hlv
        have hq := hK.put (b := s32 j) (x := x) hlv (fun z => by rw [g1] at z; cases z)
        unfold sv at hq
        rw [g1] at hq
        have hN := k2 (by rw [g1]; decide)
        exact And.intro (And.intro (show S'.1 (ρ o) = 102 ∧ 0 ≤ s32 j ∧ s32 j < S'.2.1 (ρ o) by rw [k1, hN]; exact ⟨g1, g3, g4⟩) g5) (fun V1 e => by subst e; exact hn ρ _ _ _ _ _ _ _ _ _ _ hD hS.tl.tl.tl hq (g2 _ rfl))
    · exact h.elim
  case aastore =>
    have hE : (Nat.beq nx (pc + 1) && Nat.blt a 13) = true := hE
    rw [Bool.and_eq_true] at hE
    have ha := blt_of hE.2
    simp only [ex] at h ⊢
    subst hS1
    split at h
    · rename_i x j o r
      obtain ⟨⟨⟨g1, g3, g4⟩, g5⟩, g2⟩ := h
      have hlv : S.1 o ≠ -1 := by omega
      have hrf : refS (S.1 o) (s32 j) = true := by rw [g1]; exact refS_arr ha
      obtain ⟨k1, k2, k3⟩ := hM.2.1 o hlv
      have hx : OKr S x := hS.hd rfl
      have hq := hK.put (b := s32 j) (x := x) hlv (fun _ => hx)
      unfold sv at hq
      rw [hrf] at hq
      have hN := k2 (by omega)
      refine And.intro (And.intro (show S'.1 (ρ o) = 110 + (a : Int) ∧ 0 ≤ s32 j ∧ s32 j < S'.2.1 (ρ o) by rw [k1, hN]; exact ⟨g1, g3, g4⟩) ?_) (fun V1 e => by subst e; exact hn ρ _ _ _ _ _ _ _ _ _ _ hD hS.tl.tl.tl hq (g2 _ rfl))
      rcases g5 with g5 | g5
      · exact Or.inl ((hM.rho hx).1.mpr g5)
      · exact Or.inr (hM.kind g5 (by omega))
    · exact h.elim
  case newarray ty =>
    simp only [okX, Bool.and_eq_true] at hE
    obtain ⟨h1, h2⟩ := hE
    have ha : (a = 100 ∨ a = 101 ∨ a = 102 ∨ a = 103) := by
      split at h2
      · exact Or.inl (beq_of h2)
      · exact Or.inr (Or.inl (beq_of h2))
      · exact Or.inr (Or.inr (Or.inl (beq_of h2)))
      · exact Or.inr (Or.inr (Or.inr (beq_of h2)))
      · cases h2
    have hrf : ∀ k, refS (a : Int) k = true → (0 : Int) = -1 := by
      intro k z
      rcases ha with rfl | rfl | rfl | rfl <;> cases z
    simp only [ex] at h ⊢
    subst hS1
    split at h
    · rename_i n r
      obtain ⟨⟨g1, g3, g4⟩, g2⟩ := h
      obtain ⟨hq, hx⟩ := hK.new (f := fun _ => 0) g3 g4 (κ := (a : Int)) (by omega) (hrf) (N1 := upk S.2.1 S.2.2 (s32 n)) (N1' := upk S'.2.1 S'.2.2 (s32 n)) (fun _ => (if_pos rfl).trans (if_pos rfl).symm) (fun _ z => if_neg z) (fun _ z => if_neg z)
      have hl := LR.ref (ρ := upk ρ S.2.2 S'.2.2) (xnew_live (ρ1 := ρ) (N1 := upk S.2.1 S.2.2 (s32 n)) (z := S.2.2) (f := S.1) (κ := (a : Int)) (by omega)) (hS.tl.ext hx)
      rw [show upk ρ S.2.2 S'.2.2 S.2.2 = S'.2.2 from if_pos rfl] at hl
      exact And.intro ⟨g1, g3, g4⟩ (fun V1 S1 e1 e2 => by subst e1; subst e2; exact hn _ _ _ _ _ _ _ _ _ _ _ (hD.ext hx) hl hq (g2 _ _ rfl rfl))
    · exact h.elim
  case anewarray n =>
    simp only [ex] at h ⊢
    subst hS1
    split at h
    · rename_i n r
      obtain ⟨⟨g1, g3, g4⟩, g2⟩ := h
      obtain ⟨hq, hx⟩ := hK.new (f := fun _ => -1) g3 g4 (κ := 110 + (a : Int)) (by omega) (fun _ _ => rfl) (N1 := upk S.2.1 S.2.2 (s32 n)) (N1' := upk S'.2.1 S'.2.2 (s32 n)) (fun _ => (if_pos rfl).trans (if_pos rfl).symm) (fun _ z => if_neg z) (fun _ z => if_neg z)
      have hl := LR.ref (ρ := upk ρ S.2.2 S'.2.2) (xnew_live (ρ1 := ρ) (N1 := upk S.2.1 S.2.2 (s32 n)) (z := S.2.2) (f := S.1) (κ := 110 + (a : Int)) (by omega)) (hS.tl.ext hx)
      rw [show upk ρ S.2.2 S'.2.2 S.2.2 = S'.2.2 from if_pos rfl] at hl
      exact And.intro ⟨g1, g3, g4⟩ (fun V1 S1 e1 e2 => by subst e1; subst e2; exact hn _ _ _ _ _ _ _ _ _ _ _ (hD.ext hx) hl hq (g2 _ _ rfl rfl))
    · exact h.elim
  case new n =>
    simp only [okX, Bool.and_eq_true] at hE
    obtain ⟨h1, h2⟩ := hE
    obtain ⟨f1, f2⟩ := CLT_at (by simpa only [Bool.and_eq_true] using h2)
    simp only [ex] at h ⊢
    obtain ⟨⟨g3, g4⟩, g2⟩ := h
    obtain ⟨hq, hx⟩ := hK.new (f := dfl a) g3 g4 (κ := (a : Int)) (by omega) (fun k z => by
      rw [refS_at f2] at z
      unfold dfl
      rw [if_pos (beq_of z)]) (N1 := S.2.1) (N1' := S'.2.1) (fun z => by omega) (fun _ _ => rfl) (fun _ _ => rfl)
    have hl := LR.ref (ρ := upk ρ S.2.2 S'.2.2) (xnew_live (ρ1 := ρ) (N1 := S.2.1) (z := S.2.2) (f := S.1) (κ := (a : Int)) (by omega)) (hS.ext hx)
    rw [show upk ρ S.2.2 S'.2.2 S.2.2 = S'.2.2 from if_pos rfl] at hl
    exact And.intro ⟨g3, g4⟩ (fun V1 S1 e1 e2 => by subst e1; subst e2; exact hn _ _ _ _ _ _ _ _ _ _ _ (hD.ext hx) hl hq (g2 _ _ rfl rfl))
  case invokevirtual n =>
    simp only [okX, Bool.and_eq_true] at hE
    exact rel_exI (by simpa only [Bool.and_eq_true] using hE.2) hD hS hK hn hc h
  case invokestatic n =>
    simp only [ex] at h ⊢
    split at h
    · subst hS1
      split at h
      · rename_i n j o i q r
        have hct : cats (r.map (rX ρ)) = cats r := cats_rX ρ r
        cases h9 : Nat.ble (cats r) 8 with
        | false => rw [h9] at h; exact h.elim
        | true =>
          rw [h9] at h
          obtain ⟨⟨⟨g1, g2⟩, g3, g4⟩, g5⟩ := h
          obtain ⟨k1, k2, k3⟩ := hM.2.1 q (by rw [g1]; decide)
          obtain ⟨m1, m2, m3⟩ := hM.2.1 o (by rw [g2]; decide)
          have e1 := k2 (by rw [g1]; decide)
          have e2 := m2 (by rw [g2]; decide)
          show gq MM d next' ret' (bif Nat.ble (cats (r.map (rX ρ))) 8 then _ else aZ)
          rw [hct, h9]
          refine And.intro (And.intro (And.intro (k1.trans g1) (m1.trans g2)) (And.intro g3 (by show s32 i + s32 n ≤ S'.2.1 (ρ q) ∧ s32 j + s32 n ≤ S'.2.1 (ρ o); rw [e1, e2]; exact g4))) (fun V1 e => by subst e; exact hn ρ _ _ _ _ _ _ _ _ _ _ hD hS.tl.tl.tl.tl.tl ⟨hM.cpy g1 g2, hK.2⟩ (g5 _ rfl))
      · exact h.elim
    · rename_i hne
      have hE : (Nat.beq nx (pc + 3) && (bif Nat.beq a 9998 then ACL.any (fun q => Nat.beq q.1 oc && Nat.beq q.2.1 n) else MLT.any (fun q => Nat.beq q.1 oc && Nat.beq q.2.1 n && Nat.beq q.2.2.1 a) && YT.any (fun q => Nat.beq q.1 a && Nat.beq q.2.1 b.toNat && Nat.beq q.2.2.1 1))) = true := hE
      rw [Bool.and_eq_true] at hE
      have e0 : Nat.beq a 9998 = false := by
        cases z : Nat.beq a 9998 with
        | false => rfl
        | true => exact absurd (beq_of z) hne
      rw [e0] at hE
      exact rel_exI (and_r hE.2) hD hS hK hn hc h
  case invokespecial n =>
    simp only [ex] at h ⊢
    split at h
    · subst hS1
      split at h
      · rename_i o r
        have hct : cats (r.map (rX ρ)) = cats r := cats_rX ρ r
        cases h9 : Nat.ble (cats r) 8 with
        | false => rw [h9] at h; exact h.elim
        | true =>
          rw [h9] at h
          obtain ⟨⟨g1, g2⟩, g3⟩ := h
          show gq MM d next' ret' (bif Nat.ble (cats (r.map (rX ρ))) 8 then _ else aZ)
          rw [hct, h9]
          have g1 : 0 ≤ S.1 o := g1
          have k1 := (hM.2.1 o (by omega)).1
          exact And.intro (by show 0 ≤ S'.1 (ρ o) ∧ S'.1 (ρ o) < 13; rw [k1]; exact ⟨g1, g2⟩) (hn ρ _ _ _ _ _ _ _ _ _ _ hD hS.tl hK g3)
      · exact h.elim
    · rename_i hne
      have hE : (Nat.beq nx (pc + 3) && (bif Nat.beq a 9999 then OBL.any (fun q => Nat.beq q.1 oc && Nat.beq q.2.1 n) else MLT.any (fun q => Nat.beq q.1 oc && Nat.beq q.2.1 n && Nat.beq q.2.2.1 a) && Nat.blt 0 b.toNat && YT.any (fun q => Nat.beq q.1 a && Nat.beq q.2.1 (b.toNat - 1) && Nat.beq q.2.2.1 2))) = true := hE
      rw [Bool.and_eq_true] at hE
      have e0 : Nat.beq a 9999 = false := by
        cases z : Nat.beq a 9999 with
        | false => rfl
        | true => exact absurd (beq_of z) hne
      rw [e0] at hE
      exact rel_exI (and_r hE.2) hD hS hK hn hc h
  case ireturn =>
    simp only [ex] at h ⊢
    subst hS1
    split at h
    · rename_i x
      split at h
      · exact And.intro h.1 (hr (some (0, x)) (fun v e => by cases e; exact hS.hd) h.2)
      · rename_i hne
        have := hr (some (0, x)) (fun v e => by cases e; exact hS.hd) h
        exact this
    · exact h.elim
  case lreturn =>
    simp only [ex] at h ⊢
    subst hS1
    split at h
    · rename_i x
      exact hr (some (1, x)) (fun v e => by cases e; exact hS.hd) h
    · exact h.elim
  case areturn =>
    simp only [ex] at h ⊢
    subst hS1
    split at h
    · rename_i x
      exact hr (some (2, x)) (fun v e => by cases e; exact hS.hd) h
    · exact h.elim
  case return_ =>
    simp only [ex] at h ⊢
    subst hS1
    split at h
    · exact hr none (fun v e => by cases e) h
    · exact h.elim
  all_goals exact (h : False).elim
end RS
