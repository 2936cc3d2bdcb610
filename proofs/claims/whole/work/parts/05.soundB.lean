/-! soundness: a run of the abstract machine is met by the method -/
section SN
variable {D : va_G} {B0 : Nat} {sA : Nat → Nat} {l : Launch}
theorem loc_ent : ∀ (As : List XV) (k i : Nat) (v : XV), (As.flatMap (fun v => bif Nat.beq v.1 1 then [v, (9, 0)] else [v]))[i]? = some v → v.1 ≤ 2 → (k + i, toV sA v) ∈ lv_args k (As.map (toV sA))
  | [], _, _, _, h, _ => by simp at h
  | (t, x) :: r, k, i, v, h, hv => by
    rw [List.flatMap_cons] at h
    rw [List.map_cons, lv_args]
    cases ht : Nat.beq t 1 with
    | true =>
      have ht1 : t = 1 := Nat.eq_of_beq_eq_true ht
      subst ht1
      have h : ((1, x) :: (9, 0) :: (r.flatMap (fun v => bif Nat.beq v.1 1 then [v, (9, 0)] else [v])) : List XV)[i]? = some v := h
      rw [if_pos (cat_toV1 sA x)]
      match i, h with
      | 0, h => cases h; exact List.mem_cons_self
      | 1, h => cases h; exact absurd hv (by decide)
      | i + 2, h =>
        have := loc_ent r (k + 2) i v h hv
        rw [show k + (i + 2) = k + 2 + i by omega]
        exact List.mem_cons_of_mem _ this
    | false =>
      have ht1 : t ≠ 1 := fun e => by rw [e] at ht; cases ht
      have h : ((bif Nat.beq t 1 then [(t, x), (9, 0)] else [(t, x)]) ++ (r.flatMap (fun v => bif Nat.beq v.1 1 then [v, (9, 0)] else [v])) : List XV)[i]? = some v := h
      rw [ht] at h
      have h : ((t, x) :: (r.flatMap (fun v => bif Nat.beq v.1 1 then [v, (9, 0)] else [v])) : List XV)[i]? = some v := h
      have hc : ¬ (toV sA (t, x)).category = 2 := by rw [show (toV sA (t, x)).category = 1 from cat_toF sA t x ht1]; decide
      rw [if_neg hc]
      match i, h with
      | 0, h => cases h; exact List.mem_cons_self
      | i + 1, h =>
        have := loc_ent r (k + 1) i v h hv
        rw [show k + (i + 1) = k + 1 + i by omega]
        exact List.mem_cons_of_mem _ this
theorem ent_len : ∀ As : List XV, (As.flatMap (fun v => bif Nat.beq v.1 1 then [v, (9, 0)] else [v])).length = cats As
  | [] => rfl
  | (t, x) :: r => by
    rw [List.flatMap_cons, List.length_append, ent_len r]
    cases ht : Nat.beq t 1 with
    | true =>
      have ht1 : t = 1 := Nat.eq_of_beq_eq_true ht
      subst ht1
      show 2 + cats r = cats r + 2
      omega
    | false =>
      have ht1 : t ≠ 1 := fun e => by rw [e] at ht; cases ht
      have e : cats ((t, x) :: r) = cats r + 1 := by
        match t, ht1 with
        | 0, _ => rfl
        | 1, h => exact absurd rfl h
        | n + 2, _ => rfl
      rw [e]
      show 1 + cats r = cats r + 1
      omega
theorem sl_len : ∀ As : List XV, (lg_sl (As.map (toV sA))).length = cats As
  | [] => rfl
  | (t, x) :: r => by
    have ih := sl_len r
    unfold lg_sl at ih ⊢
    rw [List.map_cons, List.flatMap_cons, List.length_append, ih]
    by_cases ht1 : t = 1
    · subst ht1
      rw [if_pos (cat_toV1 sA x)]
      show 2 + cats r = cats r + 2
      omega
    · have hc : ¬ (toV sA (t, x)).category = 2 := by rw [show (toV sA (t, x)).category = 1 from cat_toF sA t x ht1]; decide
      have e : cats ((t, x) :: r) = cats r + 1 := by
        match t, ht1 with
        | 0, _ => rfl
        | 1, h => exact absurd rfl h
        | n + 2, _ => rfl
      rw [e, if_neg hc]
      show 1 + cats r = cats r + 1
      omega
theorem loc_entry {As : List XV} {n : Nat} (h : cats As ≤ n) : LOC sA ((lg_sl (As.map (toV sA)) ++ List.replicate (n - (lg_sl (As.map (toV sA))).length) Slot.unset).toArray) n (entL As n) := by
  refine ⟨_, lv_entry (As.map (toV sA)) (by rw [sl_len]; exact h), fun i v hi hv => ?_⟩
  unfold entL at hi
  by_cases hlt : i < (As.flatMap (fun v => bif Nat.beq v.1 1 then [v, (9, 0)] else [v])).length
  · rw [List.getElem?_append_left hlt] at hi
    have := loc_ent (sA := sA) As 0 i v hi hv
    rw [Nat.zero_add] at this
    exact this
  · rw [List.getElem?_append_right (by omega)] at hi
    have := List.mem_of_getElem? hi
    rw [List.eq_of_mem_replicate this] at hv
    exact absurd hv (by decide)
theorem run_go {d y : Nat} (hck : CK y)
    (IH : ∀ (y n k : Nat) (As : List XV) (V : Mem) (S : Shp) (w : Res), YT.any (fun q => Nat.beq q.1 y && Nat.beq q.2.1 n && Nat.beq q.2.2.1 k) = true → Run MM d y As V S w → METS D B0 sA l d y As V S w)
    {p : Program} {en : Env} {s : State} {m : MethodId} {args : Array Value} {below : List Frame} {meth : Method} {co : Code}
    (X : CTX p (rmD (d + 1 + 6) (mcc y)) s m args co (mlo y) (mcc y) (clN (MM y).2.2.2.1) (wsM y) (mby y)) (hlocks : meth.locks = false) (hret : meth.sig.returnType = mrt y) (hnm : meth.name = (mnm y).name) :
    ∀ (n : Nat) (c : Cfg) (w : Res), Ex (Run MM d) (mcc y) (MM y).1 n c w → WW D B0 sA p l en (rmD (d + 1 + 6) (mcc y)) s m args below meth co (MQ below (PostM D B0 sA w) args s (mcc y).1 (mcc y).2 (fun q => B0 ≤ q)) (mlo y) (mcc y) c := by
  intro n
  induction n with
  | zero => intro c w h; exact h.elim
  | succ n ih =>
    intro c w h
    obtain ⟨pc, ls, st, V, S, g⟩ := c
    have h : go (fun q nx => c1R (Run MM d) nx q) (fun q nx => c0R (Run MM d) nx q) (fun c1 => Ex (Run MM d) (mcc y) (MM y).1 n c1 w) (fun r => r = w) (ex (mcc y) (fch (MM y).1 pc) (pc, ls, st, V, S, g)) := h
    have hE := hck.2 pc
    generalize fch (MM y).1 pc = e at h hE
    unfold okE at hE
    rw [Bool.or_eq_true] at hE
    rcases hE with hE | hE
    · obtain ⟨i, r⟩ := e
      cases i <;> first | (cases hE; done) | exact h.elim
    · rw [Bool.and_eq_true] at hE
      refine step X (Nat.le_refl _) (Nat.le_refl _) (fun z => hnm.trans (of_decide_eq_true z)) hE.2 (dcB_at hE.1) (fun c' h' => ih c' w h') ?_ ?_ ?_ ?_ IH h
      · intro ls x V S g hd hor hw
        subst hw
        rcases hor with h1 | ⟨h1, h2⟩
        · exact st_iret X hlocks (hret.trans h1) rfl hd
        · exact st_iret X hlocks (hret.trans h1) (nar_bool h2) hd
      · intro ls x V S g hd h1 hw
        subst hw
        exact st_lret X hlocks (hret.trans h1) hd
      · intro ls x V S g hd h1 hw
        subst hw
        rcases h1 with ⟨n, h1⟩ | ⟨t, h1⟩
        · exact st_aret X hlocks (hret.trans h1) (Or.inl ⟨_, rfl⟩) hd
        · exact st_aret X hlocks (hret.trans h1) (Or.inr ⟨_, rfl⟩) hd
      · intro ls V S g hd h1 hw
        subst hw
        exact st_vret X hlocks (hret.trans h1) hd
theorem mets_of {d y n k : Nat} (hY : YT.any (fun q => Nat.beq q.1 y && Nat.beq q.2.1 n && Nat.beq q.2.2.1 k) = true) (hy : y < 9000) (hck : CK y)
    (IH : ∀ (y n k : Nat) (As : List XV) (V : Mem) (S : Shp) (w : Res), YT.any (fun q => Nat.beq q.1 y && Nat.beq q.2.1 n && Nat.beq q.2.2.1 k) = true → Run MM d y As V S w → METS D B0 sA l d y As V S w)
    {As : List XV} {V : Mem} {S : Shp} {w : Res} (h : Run MM (d + 1) y As V S w) : METS D B0 sA l (d + 1) y As V S w := by
  rcases h with h | ⟨hr, n, h⟩
  · exact (ext_none hy h).elim
  obtain ⟨-, -, -, -, -, hM⟩ := YT_at hY
  rcases hM with hM | ⟨hM1, hM2, hM3⟩
  · omega
  rw [hM1, ← hM2] at h
  have hcat : cats As ≤ mlo y := by rw [hM2]; exact Nat.le_of_ble_eq_true hr.1
  refine va_MetF (cc := mby y) (maxL := mlo y) (ret := mrt y) (ws' := Tb) hck.1 rfl ?_
  intro p e s m args below meth co s1 B hml hP
  obtain ⟨hv, hC, hP⟩ := hP
  subst hv
  have hts := atoms_spec (ws := wsM y) B.pre
  have hown : s.vm.findClass (clN (MM y).2.2.2.1) = some m.cls := by rw [hM3]; exact findClass_of_methodNamed B.named
  have X : CTX p (rmD (d + 1 + 6) (mcc y)) s m (As.map (toV sA)).toArray co (mlo y) (mcc y) (clN (MM y).2.2.2.1) (wsM y) (mby y) := ⟨B.exec, B.bytes, hml, hown, hts, fun w hw => List.mem_cons_of_mem _ hw, Nat.le_refl _, Nat.le_refl _⟩
  have hW := run_go (D := D) (B0 := B0) (sA := sA) (l := l) (en := e) (below := below) hck IH X B.notSynchronized B.returns (name_of_methodNamed B.named B.method).1 n _ w h
  rw [lg_entry_eq]
  exact hW _ s.heap [] hC hP (loc_entry hcat) (fun q hq => absurd hq List.not_mem_nil) (Nat.zero_le _) (Nat.zero_le _)
end SN
