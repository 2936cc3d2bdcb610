/-! entries checked, and the step -/
theorem FLT_at {oc idx ci k : Nat} (h : FLT.any (fun q => Nat.beq q.1 oc && Nat.beq q.2.1 idx && Nat.beq q.2.2.1 ci && Nat.beq q.2.2.2.1 k) = true) : Cond.fieldLink (clN oc) idx (TF ci k).1 (TF ci k).2.1 (TF ci k).2.2.1 ∈ Tb ∧ ci < 13 ∧ k < nfC ci := by
  obtain ⟨q, hq, h1⟩ := List.any_eq_true.mp h
  have h2 := List.all_eq_true.mp FLT_ok q hq
  simp only [Bool.and_eq_true] at h1 h2
  obtain ⟨⟨⟨a1, a2⟩, a3⟩, a4⟩ := h1
  have a1 := Nat.eq_of_beq_eq_true a1
  have a2 := Nat.eq_of_beq_eq_true a2
  have a3 := Nat.eq_of_beq_eq_true a3
  have a4 := Nat.eq_of_beq_eq_true a4
  subst a1; subst a2; subst a3; subst a4
  exact ⟨tb_of h2.1.1, by have := h2.1.2; simpa [Nat.blt_eq] using this, by have := h2.2; simpa [Nat.blt_eq] using this⟩
theorem SFL_at {oc idx i : Nat} (h : SFL.any (fun q => Nat.beq q.1 oc && Nat.beq q.2.1 idx && Nat.beq q.2.2.1 i) = true) : Cond.fieldLink (clN oc) idx "SunLamps$Acts" (if i = 0 then "ABOVE" else "BODIES") "[I" ∈ Tb ∧ i < 2 := by
  obtain ⟨q, hq, h1⟩ := List.any_eq_true.mp h
  have h2 := List.all_eq_true.mp SFL_ok q hq
  simp only [Bool.and_eq_true] at h1 h2
  obtain ⟨⟨a1, a2⟩, a3⟩ := h1
  have a1 := Nat.eq_of_beq_eq_true a1
  have a2 := Nat.eq_of_beq_eq_true a2
  have a3 := Nat.eq_of_beq_eq_true a3
  subst a1; subst a2; subst a3
  exact ⟨tb_of h2.1, by have := h2.2; simpa [Nat.blt_eq] using this⟩
theorem CST_at {oc idx : Nat} {b : Int} (h : CST.any (fun q => Nat.beq q.1 oc && Nat.beq q.2.1 idx && decide (q.2.2.1 = b)) = true) : Cond.constant (clN oc) idx (Int32.ofInt b) ∈ Tb := by
  obtain ⟨q, hq, h1⟩ := List.any_eq_true.mp h
  have h2 := List.all_eq_true.mp CST_ok q hq
  simp only [Bool.and_eq_true, decide_eq_true_eq] at h1
  obtain ⟨⟨a1, a2⟩, a3⟩ := h1
  have a1 := Nat.eq_of_beq_eq_true a1
  have a2 := Nat.eq_of_beq_eq_true a2
  subst a1; subst a2; subst a3
  exact tb_of h2
theorem CSL_at {oc idx : Nat} {b : Int} (h : CSL.any (fun q => Nat.beq q.1 oc && Nat.beq q.2.1 idx && decide (q.2.2.1 = b)) = true) : Cond.constantLong (clN oc) idx (Int64.ofInt b) ∈ Tb := by
  obtain ⟨q, hq, h1⟩ := List.any_eq_true.mp h
  have h2 := List.all_eq_true.mp CSL_ok q hq
  simp only [Bool.and_eq_true, decide_eq_true_eq] at h1
  obtain ⟨⟨a1, a2⟩, a3⟩ := h1
  have a1 := Nat.eq_of_beq_eq_true a1
  have a2 := Nat.eq_of_beq_eq_true a2
  subst a1; subst a2; subst a3
  exact tb_of h2
theorem CLT_at {oc idx ci : Nat} (h : CLT.any (fun q => Nat.beq q.1 oc && Nat.beq q.2.1 idx && Nat.beq q.2.2.1 ci) = true) : Cond.classLink (clN oc) idx (clN ci) ∈ Tb ∧ ci < 13 := by
  obtain ⟨q, hq, h1⟩ := List.any_eq_true.mp h
  have h2 := List.all_eq_true.mp CLT_ok q hq
  simp only [Bool.and_eq_true] at h1 h2
  obtain ⟨⟨a1, a2⟩, a3⟩ := h1
  have a1 := Nat.eq_of_beq_eq_true a1
  have a2 := Nat.eq_of_beq_eq_true a2
  have a3 := Nat.eq_of_beq_eq_true a3
  subst a1; subst a2; subst a3
  exact ⟨tb_of h2.1, by have := h2.2; simpa [Nat.blt_eq] using this⟩
theorem OBL_at {oc idx : Nat} (h : OBL.any (fun q => Nat.beq q.1 oc && Nat.beq q.2.1 idx) = true) : Cond.methodLink (clN oc) idx Lib.objectInit ∈ Tb := by
  obtain ⟨q, hq, h1⟩ := List.any_eq_true.mp h
  have h2 := List.all_eq_true.mp OBL_ok q hq
  simp only [Bool.and_eq_true] at h1
  obtain ⟨a1, a2⟩ := h1
  have a1 := Nat.eq_of_beq_eq_true a1
  have a2 := Nat.eq_of_beq_eq_true a2
  subst a1; subst a2
  exact tb_of h2
theorem ACL_at {oc idx : Nat} (h : ACL.any (fun q => Nat.beq q.1 oc && Nat.beq q.2.1 idx) = true) : Cond.methodLink (clN oc) idx arraycopyName ∈ Tb := by
  obtain ⟨q, hq, h1⟩ := List.any_eq_true.mp h
  have h2 := List.all_eq_true.mp ACL_ok q hq
  simp only [Bool.and_eq_true] at h1
  obtain ⟨a1, a2⟩ := h1
  have a1 := Nat.eq_of_beq_eq_true a1
  have a2 := Nat.eq_of_beq_eq_true a2
  subst a1; subst a2
  exact tb_of h2
theorem MLT_at {oc idx y : Nat} (h : MLT.any (fun q => Nat.beq q.1 oc && Nat.beq q.2.1 idx && Nat.beq q.2.2.1 y) = true) : Cond.methodLink (clN oc) idx (mnm y) ∈ Tb ∨ ∃ host, Cond.methodLinkNest (clN oc) idx (mnm y) host ∈ lw_tbl := by
  obtain ⟨q, hq, h1⟩ := List.any_eq_true.mp h
  have h2 := List.all_eq_true.mp MLT_ok q hq
  simp only [Bool.and_eq_true] at h1
  obtain ⟨⟨a1, a2⟩, a3⟩ := h1
  have a1 := Nat.eq_of_beq_eq_true a1
  have a2 := Nat.eq_of_beq_eq_true a2
  have a3 := Nat.eq_of_beq_eq_true a3
  subst a1; subst a2; subst a3
  split at h2
  · exact Or.inl (tb_of h2)
  · exact Or.inr ⟨_, List.mem_of_getElem? (of_decide_eq_true h2)⟩
theorem MLT_at0 {oc idx y : Nat} (h : MLT.any (fun q => Nat.beq q.1 oc && Nat.beq q.2.1 idx && Nat.beq q.2.2.1 y && Nat.beq q.2.2.2.1 0) = true) : Cond.methodLink (clN oc) idx (mnm y) ∈ Tb := by
  obtain ⟨q, hq, h1⟩ := List.any_eq_true.mp h
  have h2 := List.all_eq_true.mp MLT_ok q hq
  simp only [Bool.and_eq_true] at h1
  obtain ⟨⟨⟨a1, a2⟩, a3⟩, a4⟩ := h1
  have a1 := Nat.eq_of_beq_eq_true a1
  have a2 := Nat.eq_of_beq_eq_true a2
  have a3 := Nat.eq_of_beq_eq_true a3
  have a4 := Nat.eq_of_beq_eq_true a4
  subst a1; subst a2; subst a3
  rw [if_pos a4] at h2
  exact tb_of h2
theorem LYT_at : ∀ ci, ci < 13 → ∀ w ∈ u_ws (clN ci) (TF ci) (nfC ci), w ∈ Tb := by
  intro ci hci w hw
  obtain ⟨k, hk, rfl⟩ := List.mem_map.mp hw
  have h1 := List.all_eq_true.mp LYT_in ci (List.mem_range.mpr hci)
  have h2 := List.all_eq_true.mp h1 k hk
  obtain ⟨q, hq, h3⟩ := List.any_eq_true.mp h2
  have h4 := List.all_eq_true.mp LYT_ok q hq
  simp only [Bool.and_eq_true, beq_iff_eq] at h3
  obtain ⟨a1, a2⟩ := h3
  subst a1; subst a2
  exact tb_of h4
theorem NWT_at : ∀ ci, ci < 13 → Cond.instantiable (clN ci) (nfC ci) ∈ Tb ∧ Cond.initialized (clN ci) ∈ Tb := by
  intro ci hci
  have h1 := List.all_eq_true.mp NWT_in ci (List.mem_range.mpr hci)
  obtain ⟨q, hq, h3⟩ := List.any_eq_true.mp h1
  have h4 := List.all_eq_true.mp NWT_ok q hq
  simp only [Bool.and_eq_true, beq_iff_eq] at h3 h4
  subst h3
  exact ⟨tb_of h4.1, tb_of h4.2⟩
/-- a callee's facts -/
theorem YT_at {y n k : Nat} (h : YT.any (fun q => Nat.beq q.1 y && Nat.beq q.2.1 n && Nat.beq q.2.2.1 k) = true) : OKM y ∧ npar y = some n ∧ (k = 0 → Cond.instanceMethod (mnm y) ∈ Tb ∧ Cond.selects (mnm y).cls (mnm y) (mnm y) ∈ Tb ∧ (9000 < y ∨ ((MM y).2.2.2.2 = true ∧ (MM y).2.2.2.1 < 13 ∧ clN (MM y).2.2.2.1 = (mnm y).cls))) ∧ (k = 1 → Cond.static (mnm y) ∈ Tb ∧ y < 9000) ∧
    (k = 2 → Cond.instanceMethod (mnm y) ∈ Tb ∧ (mnm y).name = "<init>" ∧ mrt y = none ∧ (MM y).2.2.2.2 = true ∧ (MM y).2.2.2.1 < 13 ∧ y < 9000) ∧ (9000 < y ∨ ((MM y).2.1 = mcc y ∧ mlo y = (MM y).2.2.1 ∧ clN (MM y).2.2.2.1 = (mnm y).cls)) := by
  obtain ⟨q, hq, h1⟩ := List.any_eq_true.mp h
  have h2 := YT_ok q hq
  obtain ⟨y', n', k', p1, p2, p3, p4⟩ := q
  simp only [Bool.and_eq_true] at h1
  obtain ⟨⟨a1, a2⟩, a3⟩ := h1
  have a1 : y' = y := Nat.eq_of_beq_eq_true a1
  have a2 : n' = n := Nat.eq_of_beq_eq_true a2
  have a3 : k' = k := Nat.eq_of_beq_eq_true a3
  subst a1; subst a2; subst a3
  unfold yOk at h2
  simp only [Bool.and_eq_true, Bool.or_eq_true, decide_eq_true_eq, Nat.blt_eq] at h2
  obtain ⟨⟨⟨⟨⟨⟨⟨b1, b2⟩, b3⟩, b4⟩, b5⟩, b6⟩, b7⟩, b8⟩ := h2
  refine ⟨⟨code_in b1, tb_of b2, ⟨b3, b4⟩, b5⟩, b6, fun e => ?_, fun e => ?_, fun e => ?_, ?_⟩
  · subst e
    simp only [Bool.and_eq_true, Bool.or_eq_true, decide_eq_true_eq, Nat.blt_eq] at b7
    exact ⟨tb_of b7.1.1, tb_of b7.1.2, b7.2.imp id (fun z => ⟨z.1.1, z.1.2, z.2⟩)⟩
  · subst e
    simp only [Bool.and_eq_true, Nat.blt_eq] at b7
    exact ⟨tb_of b7.1, b7.2⟩
  · subst e
    simp only [Bool.and_eq_true, decide_eq_true_eq, Nat.blt_eq] at b7
    obtain ⟨⟨⟨⟨⟨c1, c2⟩, c3⟩, c4⟩, c5⟩, c6⟩ := b7
    exact ⟨tb_of c1, c2, c3, c4, c5, c6⟩
  · exact b8.imp id (fun z => ⟨z.1.1, Nat.eq_of_beq_eq_true z.1.2, z.2⟩)
def okB (oc : Nat) (a : Nat) (idx : Nat) (b : Int) : Bool := FLT.any (fun q => Nat.beq q.1 oc && Nat.beq q.2.1 idx && Nat.beq q.2.2.1 a && Nat.beq q.2.2.2.1 b.toNat) && decide (0 ≤ b)
def tgB (t : Nat) (ty : FieldType) : Bool := match t with
  | 0 => decide (ty = .int)
  | 1 => decide (ty = .long)
  | 2 => Nat.beq (ftg ty) 2
  | 3 => decide (ty = .boolean)
  | _ => false
def tswB (pc : Nat) (lo : Int) : Nat → List Int → List (Int × Nat) → Bool
  | _, [], [] => true
  | j, o :: r, q :: w => decide (q.1 = lo + (j : Int)) && decide ((pc : Int) + o = (q.2 : Int)) && tswB pc lo (j + 1) r w
  | _, _, _ => false
/-- what an entry must be, beside its decoding; oc: its class, rt: what the method returns, ini: whether it is a constructor -/
def okX (oc : Nat) (rt : Option FieldType) (nL : Nat) (ini : Bool) (pc : Nat) : Ent → Bool := fun (i, nx, a, b, t, _, sw) => match i with
  | .bipush n => Nat.beq nx (pc + 2) && decide ((Int8.ofInt n).toInt32 = Int32.ofInt b)
  | .sipush n => Nat.beq nx (pc + 3) && decide ((Int16.ofInt n).toInt32 = Int32.ofInt b)
  | .ldc n => Nat.beq nx (pc + 2) && (match t with
    | 0 => CST.any (fun q => Nat.beq q.1 oc && Nat.beq q.2.1 n && decide (q.2.2.1 = b))
    | 2 => Nat.beq oc 10 && decide (b ≤ -4) && (match strTx[(-4 - b).toNat]? with
      | some q => Nat.beq q.1 n
      | none => false)
    | _ => false)
  | .ldc_w n => Nat.beq nx (pc + 3) && CST.any (fun q => Nat.beq q.1 oc && Nat.beq q.2.1 n && decide (q.2.2.1 = b))
  | .ldc2_w n => Nat.beq nx (pc + 3) && CSL.any (fun q => Nat.beq q.1 oc && Nat.beq q.2.1 n && decide (q.2.2.1 = b))
  | .iload _ => Nat.beq nx (pc + 2)
  | .lload _ => Nat.beq nx (pc + 2)
  | .aload _ => Nat.beq nx (pc + 2)
  | .istore n => Nat.beq nx (pc + 2) && Nat.blt n nL
  | .astore n => Nat.beq nx (pc + 2) && Nat.blt n nL
  | .lstore n => Nat.beq nx (pc + 2) && Nat.blt (n + 1) nL
  | .istore_n n => Nat.beq nx (pc + 1) && Nat.blt n.val nL
  | .astore_n n => Nat.beq nx (pc + 1) && Nat.blt n.val nL
  | .lstore_n n => Nat.beq nx (pc + 1) && Nat.blt (n.val + 1) nL
  | .iinc n _ => Nat.beq nx (pc + 3) && Nat.blt n nL
  | .ifCond _ off => Nat.beq nx (pc + 3) && decide ((pc : Int) + off = (a : Int))
  | .if_icmp _ off => Nat.beq nx (pc + 3) && decide ((pc : Int) + off = (a : Int))
  | .if_acmp _ off => Nat.beq nx (pc + 3) && decide ((pc : Int) + off = (a : Int))
  | .ifnull off => Nat.beq nx (pc + 3) && decide ((pc : Int) + off = (a : Int))
  | .ifnonnull off => Nat.beq nx (pc + 3) && decide ((pc : Int) + off = (a : Int))
  | .goto off => Nat.beq nx (pc + 3) && decide ((pc : Int) + off = (a : Int))
  | .tableswitch d lo hi offs => decide ((pc : Int) + d = (a : Int)) && decide (hi - lo + 1 = (sw.length : Int)) && tswB pc lo 0 offs.toList sw
  | .lookupswitch d ps => decide ((pc : Int) + d = (a : Int)) && (ps.toList.zip (ps.toList.drop 1)).all (fun (a, next) => a.1 < next.1) && decide (sw.map (fun q => (q.1, (q.2 : Int) - (pc : Int))) = ps.toList)
  | .getfield n => Nat.beq nx (pc + 3) && okB oc a n b && tgB t (tyC a b.toNat)
  | .putfield n => Nat.beq nx (pc + 3) && okB oc a n b && tgB t (tyC a b.toNat) && (!(TF a b.toNat).2.2.2 || (ini && decide ((TF a b.toNat).1 = clN oc)))
  | .getstatic n => Nat.beq nx (pc + 3) && SFL.any (fun q => Nat.beq q.1 oc && Nat.beq q.2.1 n && Nat.beq q.2.2.1 (-2 - b).toNat) && decide (b ≤ -2)
  | .aaload => Nat.beq nx (pc + 1) && Nat.blt a 13
  | .aastore => Nat.beq nx (pc + 1) && Nat.blt a 13
  | .newarray at_ => Nat.beq nx (pc + 2) && (match at_ with
    | .int => Nat.beq a 100
    | .byte => Nat.beq a 101
    | .boolean => Nat.beq a 102
    | .long => Nat.beq a 103
    | _ => false)
  | .anewarray n => Nat.beq nx (pc + 3) && CLT.any (fun q => Nat.beq q.1 oc && Nat.beq q.2.1 n && Nat.beq q.2.2.1 a) && AOP.any (fun q => Nat.beq q.1 a)
  | .new n => Nat.beq nx (pc + 3) && CLT.any (fun q => Nat.beq q.1 oc && Nat.beq q.2.1 n && Nat.beq q.2.2.1 a)
  | .invokevirtual n => Nat.beq nx (pc + 3) && MLT.any (fun q => Nat.beq q.1 oc && Nat.beq q.2.1 n && Nat.beq q.2.2.1 a && Nat.beq q.2.2.2.1 0) && Nat.blt 0 b.toNat && YT.any (fun q => Nat.beq q.1 a && Nat.beq q.2.1 (b.toNat - 1) && Nat.beq q.2.2.1 0)
  | .invokestatic n => Nat.beq nx (pc + 3) && (bif Nat.beq a 9998 then ACL.any (fun q => Nat.beq q.1 oc && Nat.beq q.2.1 n) else MLT.any (fun q => Nat.beq q.1 oc && Nat.beq q.2.1 n && Nat.beq q.2.2.1 a) && YT.any (fun q => Nat.beq q.1 a && Nat.beq q.2.1 b.toNat && Nat.beq q.2.2.1 1))
  | .invokespecial n => Nat.beq nx (pc + 3) && (bif Nat.beq a 9999 then OBL.any (fun q => Nat.beq q.1 oc && Nat.beq q.2.1 n) else MLT.any (fun q => Nat.beq q.1 oc && Nat.beq q.2.1 n && Nat.beq q.2.2.1 a) && Nat.blt 0 b.toNat && YT.any (fun q => Nat.beq q.1 a && Nat.beq q.2.1 (b.toNat - 1) && Nat.beq q.2.2.1 2))
  | .ireturn => Nat.beq nx (pc + 1) && (match t with
    | 3 => decide (rt = some .boolean)
    | _ => decide (rt = some .int))
  | .lreturn => Nat.beq nx (pc + 1) && decide (rt = some .long)
  | .areturn => Nat.beq nx (pc + 1) && (match rt with
    | some (.object _) => true
    | some (.array _) => true
    | _ => false)
  | .return_ => Nat.beq nx (pc + 1) && decide (rt = none)
  | _ => Nat.beq nx (pc + 1)
theorem tswB_at {pc : Nat} {lo : Int} : ∀ (offs : List Int) (sw : List (Int × Nat)) (n : Nat), tswB pc lo n offs sw = true → offs.length = sw.length ∧ ∀ (j : Nat) (o : Int) (q : Int × Nat), offs[j]? = some o → sw[j]? = some q → q.1 = lo + ((n + j : Nat) : Int) ∧ (pc : Int) + o = (q.2 : Int)
  | [], [], _, _ => ⟨rfl, fun j o q h => by simp at h⟩
  | [], _ :: _, _, h => by cases h
  | _ :: _, [], _, h => by cases h
  | a :: r, p :: w, n, h => by
    unfold tswB at h
    simp only [Bool.and_eq_true, decide_eq_true_eq] at h
    obtain ⟨h1, h2⟩ := tswB_at r w (n + 1) h.2
    refine ⟨by simp [h1], fun j o q g1 g2 => ?_⟩
    cases j with
    | zero =>
      simp at g1 g2
      subst g1; subst g2
      exact ⟨h.1.1, h.1.2⟩
    | succ j =>
      rw [List.getElem?_cons_succ] at g1 g2
      have := h2 j o q g1 g2
      refine ⟨?_, this.2⟩
      rw [this.1]
      congr 2
      omega
