/-! every method: its entries are its code (printed by sound10.py) -/
def dcB (cc : ByteArray) (pc : Nat) (i : Instr) (n : Nat) : Bool := match decode cc pc with
  | .ok q => decide (q.1 = i) && Nat.beq q.2 n
  | .error _ => false
theorem dcB_at {cc : ByteArray} {pc n : Nat} {i : Instr} (h : dcB cc pc i n = true) : decode cc pc = .ok (i, n) := by
  unfold dcB at h
  split at h
  · rename_i q e
    rw [Bool.and_eq_true] at h
    have h1 := of_decide_eq_true h.1
    have h2 := Nat.eq_of_beq_eq_true h.2
    rw [e, ← h1, ← h2]
  · cases h
def isAt : Instr → Bool
  | .athrow => true
  | _ => false
def okE (oc : Nat) (rt : Option FieldType) (nL : Nat) (ini : Bool) (cc : ByteArray) (pc : Nat) (e : Ent) : Bool := isAt e.1 || (dcB cc pc e.1 (e.2.1 - pc) && okX oc rt nL ini pc e)
def isI (y : Nat) : Bool := decide ((mnm y).name = "<init>")
def CK (y : Nat) : Prop := plainFor (mnm y) = true ∧ ∀ pc, okE (MM y).2.2.2.1 (mrt y) (mlo y) (isI y) (mby y) pc (fch (MM y).1 pc) = true
def CHK (oc : Nat) (rt : Option FieldType) (nL : Nat) (ini : Bool) (cc : ByteArray) (cd : Cod) (M : Nat) : Bool := (List.range M).all fun pc => okE oc rt nL ini cc pc (cd pc)
theorem far_of {cd T : Cod} {M : Nat} (h : cd = fun pc => bif Nat.blt pc M then T pc else dEnt) : ∀ pc, Nat.blt pc M = false → cd pc = dEnt := by
  intro pc hp
  rw [h]
  simp [hp]
theorem okE_all {oc M : Nat} {rt : Option FieldType} {nL : Nat} {ini : Bool} {cc : ByteArray} {cd : Cod} (h4 : ∀ pc, Nat.blt pc M = false → cd pc = dEnt) (h5 : CHK oc rt nL ini cc cd M = true) : ∀ pc, okE oc rt nL ini cc pc (fch cd pc) = true := by
  intro pc
  have hd : okE oc rt nL ini cc pc dEnt = true := rfl
  unfold fch
  cases h : Nat.blt pc 1700 with
  | false => exact hd
  | true =>
    show okE oc rt nL ini cc pc (cd pc) = true
    cases h1 : Nat.blt pc M with
    | false => rw [h4 pc h1]; exact hd
    | true => exact List.all_eq_true.mp h5 pc (List.mem_range.mpr (Nat.blt_eq.mp h1))
theorem ck_of {y oc M : Nat} {ini : Bool} {cd : Cod} (hp : plainFor (mnm y) = true) (h1 : (MM y).1 = cd) (h2 : (MM y).2.2.2.1 = oc) (h3 : isI y = ini) (h4 : ∀ pc, Nat.blt pc M = false → cd pc = dEnt) (h5 : CHK oc (mrt y) (mlo y) ini (mby y) cd M = true) : CK y := by
  refine ⟨hp, ?_⟩
  rw [h1, h2, h3]
  exact okE_all h4 h5
theorem pl_cls : (List.range 13).all (fun ci => plainName (clN ci)) = true := by decide +kernel
theorem pf_of {y ci : Nat} (hci : ci < 13) (h : clN ci = (mnm y).cls) : plainFor (mnm y) = true := plainFor_of_name (by rw [← h]; exact List.all_eq_true.mp pl_cls ci (List.mem_range.mpr hci))
