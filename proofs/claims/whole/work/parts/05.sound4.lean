/-! making, ending, calling -/
def okty (ty : FieldType) : Bool := match ty with
  | .int => true
  | .long => true
  | .boolean => true
  | .object _ => true
  | .array _ => true
  | _ => false
theorem okty_all : ∀ ci, ci < 13 → ∀ k, k < nfC ci → okty (tyC ci k) = true := by decide +kernel
theorem okty_dfl {sA : Nat → Nat} {ty : FieldType} (h : okty ty = true) : defaultValue ty = toF sA (ftg ty) (if ftg ty = 2 then -1 else 0) := by
  cases ty <;> first | rfl | exact absurd h (by decide)
section MK
variable {D : va_G} {B0 : Nat} {sA : Nat → Nat} {p : Program} {l : Launch} {en : Env} {R : Room} {s : State} {m : MethodId} {args : Array Value} {below : List Frame} {meth : Method} {co : Code} {Qf : State → Prop} {nL : Nat} {mc : Cnt}
variable {own : String} {Ts : List Cond} {cc : ByteArray} {pc : Nat} {ls : List XV} {r : List XV} {V : Mem} {S : Shp} {g : Cnt}
theorem toV_z {H : Heap} {z : Int} (h : (H.size : Int) = z) : toV sA (2, z) = .ref H.size := by
  rw [toV_ref (by omega), show z.toNat = H.size by omega]
theorem PPx.mkarr {U : State} {H H1 : Heap} {kind dv : Int} {N : Int} {ty : FieldType} {cA : ClassId} (hP : PPx D B0 sA U V S H) (hty : kty kind = some ty) (hN0 : 0 ≤ N) (hN1 : N ≤ 100000) (hdv : defaultValue ty = toF sA (ftg ty) dv) (k5 : ArrOfT U cA ty) (k6 : va_RA U cA ty)
    (e1 : H1[H.size]? = some (arrV cA N.toNat (fun _ => defaultValue ty))) (e2 : H1.size = H.size + 1) (e3 : ∀ q : Nat, q < H.size → H1[q]? = H[q]?) :
    PPx D B0 sA U (upo V S.2.2 (fun _ => dv)) (upk S.1 S.2.2 kind, upk S.2.1 S.2.2 N, S.2.2 + 1) H1 := by
  have hs := hP.1
  have hb := hP.2.1
  have hk := kty_some hty
  have e0 : upk S.1 S.2.2 kind S.2.2 = kind := by unfold upk; rw [if_pos rfl]
  refine hP.push e2 e3 (fun b h => ?_) (fun b h => ?_) (fun b h _ => ?_) rfl ?_ ?_ ?_ ?_ ?_
  · unfold upo; rw [if_neg h]
  · show upk S.1 S.2.2 kind b = _; unfold upk; rw [if_neg h]
  · show upk S.2.1 S.2.2 N b = _; unfold upk; rw [if_neg h]
  · intro ci h1 h2
    have h1 : upk S.1 S.2.2 kind S.2.2 = (ci : Int) := h1
    rw [e0] at h1
    omega
  · intro ty2 hty2
    have hty2 : kty (upk S.1 S.2.2 kind S.2.2) = some ty2 := hty2
    rw [e0, hty] at hty2
    cases hty2
    have e4 : upk S.2.1 S.2.2 N S.2.2 = N := by unfold upk; rw [if_pos rfl]
    refine ⟨by omega, by omega, ?_, ?_, cA, k5, k6, ?_⟩
    · show 0 ≤ upk S.2.1 S.2.2 N S.2.2
      rw [e4]; exact hN0
    · show upk S.2.1 S.2.2 N S.2.2 < _
      rw [e4]; omega
    · show H1[S.2.2.toNat]? = some (arrV cA (upk S.2.1 S.2.2 N S.2.2).toNat _)
      rw [e4, show S.2.2.toNat = H.size by omega, e1]
      congr 2
      funext j
      rw [hdv]
      unfold upo
      rw [if_pos rfl]
  · show upk S.1 S.2.2 kind S.2.2 ≠ 104
    rw [e0]; omega
  · show upk S.1 S.2.2 kind S.2.2 ≠ 130
    rw [e0]; omega
  · show upk S.1 S.2.2 kind S.2.2 < 105 ∨ 110 ≤ upk S.1 S.2.2 kind S.2.2
    rw [e0]; omega
theorem st_newarray (X : CTX p R s m args co nL mc own Ts cc) {at_ : ArrayType} {kind n : Int} (hty : kty kind = some (newarray.typeOf at_)) (hw : Cond.arrayClass (newarray.typeOf at_) ∈ Tb) (hdv : okty (newarray.typeOf at_) = true ∨ newarray.typeOf at_ = .byte) (hd : decode cc pc = .ok (.newarray at_, 2))
    (hko : (0 ≤ s32 n ∧ s32 n ≤ 100000) ∧ g.1 + 1 ≤ mc.1 ∧ g.2 + (s32 n).toNat ≤ mc.2)
    (hkk : WW D B0 sA p l en R s m args below meth co Qf nL mc (pc + 2, ls, (2, S.2.2) :: r, upo V S.2.2 (fun _ => 0), (upk S.1 S.2.2 kind, upk S.2.1 S.2.2 (s32 n), S.2.2 + 1), (g.1 + 1, g.2 + (s32 n).toNat))) :
    WW D B0 sA p l en R s m args below meth co Qf nL mc (pc, ls, (0, n) :: r, V, S, g) := by
  intro lsM H locs hC hP hL hq g1 g2
  have hP : PPx D B0 sA s V S H := hP
  obtain ⟨hx, hb, hml, hown, hts, hTb, hR1, hR2⟩ := X
  obtain ⟨⟨n0, n1⟩, m1, m2⟩ := hko
  have hnz : ¬ i32 n < 0 := fun z => by have := (i32_lt0 n).mp z; omega
  refine va_newaK (n := i32 n) (N := (s32 n).toNat) hx hb (hts _ (hTb _ hw)) rfl hd rfl hnz rfl ?_ (Nat.le_trans m1 hR1) (Nat.le_trans m2 hR2) rfl fun H1 cA e1 e2 e3 k5 k6 => ?_
  · have : componentBytes (newarray.typeOf at_) ≤ 8 := by cases at_ <;> decide
    have h9 : (s32 n).toNat ≤ 100000 := by omega
    calc (s32 n).toNat * componentBytes (newarray.typeOf at_) ≤ 100000 * 8 := Nat.mul_le_mul h9 this
      _ ≤ 536870912 := by decide
  · have hk2 := hkk lsM H1 locs (hC.kept (fun q h _ => e3 q h)) (hP.mkarr hty n0 n1 ?_ k5 (by cases at_ <;> exact k6) e1 e2 e3) hL hq m1 m2
    · rw [List.map_cons, toV_z hP.1] at hk2
      exact hk2
    · rcases hdv with h | h
      · rw [okty_dfl (sA := sA) h]
        cases at_ <;> rfl
      · rw [h]; rfl
theorem st_anewarray (X : CTX p R s m args co nL mc own Ts cc) {idx ci : Nat} {n : Int} (hci : ci < 13) (hw : Cond.classLink own idx (clN ci) ∈ Tb) (hao : Cond.arrayOver (.object (clN ci)) ∈ lw_tbl) (hd : decode cc pc = .ok (.anewarray idx, 3))
    (hko : (0 ≤ s32 n ∧ s32 n ≤ 100000) ∧ g.1 + 1 ≤ mc.1 ∧ g.2 + (s32 n).toNat ≤ mc.2)
    (hkk : WW D B0 sA p l en R s m args below meth co Qf nL mc (pc + 3, ls, (2, S.2.2) :: r, upo V S.2.2 (fun _ => -1), (upk S.1 S.2.2 (110 + (ci : Int)), upk S.2.1 S.2.2 (s32 n), S.2.2 + 1), (g.1 + 1, g.2 + (s32 n).toNat))) :
    WW D B0 sA p l en R s m args below meth co Qf nL mc (pc, ls, (0, n) :: r, V, S, g) := by
  intro lsM H locs hC hP hL hq g1 g2
  have hP : PPx D B0 sA s V S H := hP
  obtain ⟨hx, hb, hml, hown, hts, hTb, hR1, hR2⟩ := X
  obtain ⟨⟨n0, n1⟩, m1, m2⟩ := hko
  have hnz : ¬ i32 n < 0 := fun z => by have := (i32_lt0 n).mp z; omega
  refine W.anew (n := i32 n) hx hb hown (hts _ (hTb _ hw)) (va_AO.use (hC.2.2.2.2 _ hao)) rfl hd rfl hnz ?_ (Nat.le_trans m1 hR1) (Nat.le_trans m2 hR2) fun cA kA comp f1 f2 f3 f4 => ?_
  · show (s32 n).toNat * 4 ≤ 536870912
    omega
  generalize hH1 : H.push ({ cls := cA, slots := Array.replicate (i32 n).toNatClampNeg .null, vm := .none } : Cell) = H1
  have z1 : H1.size = H.size + 1 := by rw [← hH1, Array.size_push]
  have e1 : H1[H.size]? = some (arrV cA (s32 n).toNat (fun _ => .null)) := by rw [← hH1, Array.getElem?_push_size, ← arrV_new]; rfl
  have o1 : ∀ q : Nat, q < H.size → H1[q]? = H[q]? := fun q hq => by rw [← hH1, Array.getElem?_push, if_neg (Nat.ne_of_lt hq)]
  have hAr : ArrOfT s cA (.object (clN ci)) := fun N z => ⟨(fun k h => by cases h), kA, f2, comp, f3⟩
  have hk2 := hkk lsM H1 locs (hC.kept (fun q h _ => o1 q h)) (hP.mkarr (ty := .object (clN ci)) (kty_ref hci) n0 n1 rfl hAr ⟨kA, comp, f2, f3, f4, f1⟩ e1 z1 o1) hL hq m1 m2
  rw [List.map_cons, toV_z hP.1] at hk2
  exact hk2
theorem st_new (X : CTX p R s m args co nL mc own Ts cc) {idx ci : Nat} (hci : ci < 13) (hw : Cond.classLink own idx (clN ci) ∈ Tb) (hw2 : Cond.instantiable (clN ci) (nfC ci) ∈ Tb) (hw3 : Cond.initialized (clN ci) ∈ Tb) (hin : ∀ w ∈ u_ws (clN ci) (TF ci) (nfC ci), w ∈ Tb) (hd : decode cc pc = .ok (.new idx, 3))
    (hko : g.1 + 1 ≤ mc.1 ∧ g.2 + nfC ci ≤ mc.2)
    (hkk : WW D B0 sA p l en R s m args below meth co Qf nL mc (pc + 3, ls, (2, S.2.2) :: r, upo V S.2.2 (dfl ci), (upk S.1 S.2.2 (ci : Int), S.2.1, S.2.2 + 1), (g.1 + 1, g.2 + nfC ci))) :
    WW D B0 sA p l en R s m args below meth co Qf nL mc (pc, ls, r, V, S, g) := by
  intro lsM H locs hC hP hL hq g1 g2
  have hP : PPx D B0 sA s V S H := hP
  obtain ⟨hx, hb, hml, hown, hts, hTb, hR1, hR2⟩ := X
  obtain ⟨m1, m2⟩ := hko
  have hKn := hC.1 ci _ (vw_at ci hci)
  refine W.newcK hx hb hown (hts _ (hTb _ hw)) (hts _ (hTb _ hw2)) (hts _ (hTb _ hw3)) rfl hd (Nat.le_trans m1 hR1) (Nat.le_trans m2 hR2) hKn.2.1 rfl fun H1 kC hkC e1 e2 e3 => ?_
  have hob := u_born (tyC ci) hts (fun w h => hTb _ (hin w h)) hKn hkC e1 (ty_at ci hci)
  have hs := hP.1
  have hb2 := hP.2.1
  have e0 : upk S.1 S.2.2 (ci : Int) S.2.2 = (ci : Int) := by unfold upk; rw [if_pos rfl]
  have hk2 := hkk lsM H1 locs (hC.kept (fun q h _ => e3 q h)) (hP.push e2 e3 (fun b h => by show upo V S.2.2 (dfl ci) b = _; unfold upo; rw [if_neg h]) (fun b h => by show upk S.1 S.2.2 (ci : Int) b = _; unfold upk; rw [if_neg h]) (fun b h _ => rfl) rfl ?_ ?_ ?_ ?_ ?_) hL hq m1 m2
  · rw [List.map_cons, toV_z hs] at hk2
    exact hk2
  · intro c2 h1 h2
    have h1 : upk S.1 S.2.2 (ci : Int) S.2.2 = (c2 : Int) := h1
    rw [e0] at h1
    have : c2 = ci := by omega
    subst this
    refine ⟨by omega, by omega, ?_⟩
    rw [show S.2.2.toNat = H.size by omega]
    refine hob.to (fun k hk => ?_)
    show _ = toF sA (ftg (tyC c2 k)) (upo V S.2.2 (dfl c2) S.2.2 k)
    unfold upo
    rw [if_pos rfl, okty_dfl (sA := sA) (okty_all c2 hci k hk)]
    rfl
  · intro ty hty
    have hty : kty (upk S.1 S.2.2 (ci : Int) S.2.2) = some ty := hty
    rw [e0, kty_obj hci] at hty
    cases hty
  · show upk S.1 S.2.2 (ci : Int) S.2.2 ≠ 104
    rw [e0]; omega
  · show upk S.1 S.2.2 (ci : Int) S.2.2 ≠ 130
    rw [e0]; omega
  · show upk S.1 S.2.2 (ci : Int) S.2.2 < 105 ∨ 110 ≤ upk S.1 S.2.2 (ci : Int) S.2.2
    rw [e0]; omega
theorem acmp_eq {x y : Int} (hx : -1 ≤ x) (hy : -1 ≤ y) : rfo sA x = rfo sA y ↔ x = y := by
  constructor
  · intro h
    unfold rfo toA at h
    by_cases h1 : x = -1
    · by_cases h2 : y = -1
      · rw [h1, h2]
      · rw [if_pos h1, if_neg h2] at h; cases h
    · by_cases h2 : y = -1
      · rw [if_neg h1, if_pos h2] at h; cases h
      · rw [if_neg h1, if_neg h2, if_pos (by omega), if_pos (by omega)] at h
        have := Option.some.inj h
        omega
  · intro h; rw [h]
theorem st_acmp_eq (X : CTX p R s m args co nL mc own Ts cc) {x y : Int} {off : Int} {tgt : Nat} (ht : (pc : Int) + off = (tgt : Int)) (hd : decode cc pc = .ok (.if_acmp .eq off, 3)) (hk : (-1 ≤ x ∧ -1 ≤ y) ∧ (x = y → WW D B0 sA p l en R s m args below meth co Qf nL mc (tgt, ls, r, V, S, g)) ∧ (¬ x = y → WW D B0 sA p l en R s m args below meth co Qf nL mc (pc + 3, ls, r, V, S, g))) : WW D B0 sA p l en R s m args below meth co Qf nL mc (pc, ls, (2, y) :: (2, x) :: r, V, S, g) := by
  intro lsM H locs hC hP hL hq g1 g2
  obtain ⟨⟨a1, a2⟩, h1, h2⟩ := hk
  have e := acmp_eq (sA := sA) a1 a2
  exact lv_acmp_eq (rx := rfo sA x) (ry := rfo sA y) X.1 X.2.1 hd ht (fun z => h1 (e.mp z) lsM H locs hC hP hL hq g1 g2) (fun z => h2 (fun w => z (e.mpr w)) lsM H locs hC hP hL hq g1 g2)
theorem st_acmp_ne (X : CTX p R s m args co nL mc own Ts cc) {x y : Int} {off : Int} {tgt : Nat} (ht : (pc : Int) + off = (tgt : Int)) (hd : decode cc pc = .ok (.if_acmp .ne off, 3)) (hk : (-1 ≤ x ∧ -1 ≤ y) ∧ (x = y → WW D B0 sA p l en R s m args below meth co Qf nL mc (pc + 3, ls, r, V, S, g)) ∧ (¬ x = y → WW D B0 sA p l en R s m args below meth co Qf nL mc (tgt, ls, r, V, S, g))) : WW D B0 sA p l en R s m args below meth co Qf nL mc (pc, ls, (2, y) :: (2, x) :: r, V, S, g) := by
  intro lsM H locs hC hP hL hq g1 g2
  obtain ⟨⟨a1, a2⟩, h1, h2⟩ := hk
  have e := acmp_eq (sA := sA) a1 a2
  exact lv_acmp_ne (rx := rfo sA x) (ry := rfo sA y) X.1 X.2.1 hd ht (fun z => h2 (fun w => z (e.mpr w)) lsM H locs hC hP hL hq g1 g2) (fun z => h1 (e.mp z) lsM H locs hC hP hL hq g1 g2)
/-- switches -/
theorem swt_tab {lo : Int} {d : Nat} : ∀ (offs : List Int) (sw : List (Int × Nat)) (k : Int) (i : Nat) (o : Int), offs.length = sw.length → (∀ (j : Nat) (o : Int) (q : Int × Nat), offs[j]? = some o → sw[j]? = some q → q.1 = k + (j : Int) ∧ lo + o = (q.2 : Int)) → offs[i]? = some o → lo + o = (swt (k + (i : Int)) d sw : Int)
  | [], _, _, i, o, _, _, h => by simp at h
  | a :: r, [], _, _, _, h, _, _ => by simp at h
  | a :: r, (q, t) :: sw, k, 0, o, _, h2, h3 => by
    have h4 := h2 0 a (q, t) rfl rfl
    have : o = a := (Option.some.inj h3).symm
    subst this
    unfold swt
    rw [if_pos (by omega)]
    exact h4.2
  | a :: r, (q, t) :: sw, k, i + 1, o, h1, h2, h3 => by
    have h4 := h2 0 a (q, t) rfl rfl
    have h5 := swt_tab (d := d) r sw (k + 1) i o (by simpa using h1) (fun j o2 q2 g1 g2 => by
      have h6 := h2 (j + 1) o2 q2 (by rw [List.getElem?_cons_succ]; exact g1) (by rw [List.getElem?_cons_succ]; exact g2)
      refine ⟨?_, h6.2⟩
      have := h6.1
      omega) (by rw [List.getElem?_cons_succ] at h3; exact h3)
    unfold swt
    rw [if_neg (by have := h4.1; simp at this; omega)]
    rw [show (k + ((i + 1 : Nat) : Int)) = k + 1 + (i : Int) by omega]
    exact h5
theorem swt_out {x : Int} {d : Nat} : ∀ (sw : List (Int × Nat)), (∀ q ∈ sw, x ≠ q.1) → swt x d sw = d
  | [], _ => rfl
  | (k, t) :: r, h => by
    unfold swt
    rw [if_neg (h (k, t) List.mem_cons_self)]
    exact swt_out r (fun q hq => h q (List.mem_cons_of_mem _ hq))
theorem st_tsw (X : CTX p R s m args co nL mc own Ts cc) {x dflt lo hi : Int} {offs : Array Int} {len a : Nat} {sw : List (Int × Nat)} (hd : decode cc pc = .ok (.tableswitch dflt lo hi offs, len)) (ha : (pc : Int) + dflt = (a : Int)) (hl : offs.toList.length = sw.length) (hh : hi - lo + 1 = (sw.length : Int))
    (hs : ∀ (j : Nat) (o : Int) (q : Int × Nat), offs.toList[j]? = some o → sw[j]? = some q → q.1 = lo + (j : Int) ∧ (pc : Int) + o = (q.2 : Int)) (hk : WW D B0 sA p l en R s m args below meth co Qf nL mc (swt (s32 x) a sw, ls, r, V, S, g)) : WW D B0 sA p l en R s m args below meth co Qf nL mc (pc, ls, (0, x) :: r, V, S, g) := by
  intro lsM H locs hC hP hL hq g1 g2
  have hk2 := hk lsM H locs hC hP hL hq g1 g2
  by_cases h1 : s32 x < lo ∨ hi < s32 x
  · refine lv_tableOut (x := i32 x) X.1 X.2.1 hd h1 ha ?_
    rw [swt_out sw] at hk2
    · exact hk2
    · intro q hq2 e
      obtain ⟨j, hj⟩ := List.getElem?_of_mem hq2
      have hj2 : j < sw.length := (List.getElem?_eq_some_iff.mp hj).1
      have h3 := (hs j (offs.toList[j]'(by omega)) q (List.getElem?_eq_getElem _) hj).1
      omega
  · have hx1 : ¬ s32 x < lo := fun z => h1 (Or.inl z)
    have hx2 : ¬ hi < s32 x := fun z => h1 (Or.inr z)
    have hi2 : (s32 x - lo).toNat < offs.toList.length := by omega
    have h4 := swt_tab (d := a) offs.toList sw lo (s32 x - lo).toNat _ hl hs (List.getElem?_eq_getElem hi2)
    rw [show lo + (((s32 x - lo).toNat : Nat) : Int) = s32 x by omega] at h4
    exact lv_tableIn (x := i32 x) X.1 X.2.1 hd hx1 hx2 (by rw [← Array.getElem?_toList]; exact List.getElem?_eq_getElem hi2) h4 hk2
theorem st_lsw (X : CTX p R s m args co nL mc own Ts cc) {x dflt : Int} {ps : Array (Int × Int)} {len a : Nat} {sw : List (Int × Nat)} (hd : decode cc pc = .ok (.lookupswitch dflt ps, len)) (ha : (pc : Int) + dflt = (a : Int)) (hp : (ps.toList.zip (ps.toList.drop 1)).all (fun (a, next) => a.1 < next.1) = true)
    (hs : sw.map (fun q => (q.1, (q.2 : Int) - (pc : Int))) = ps.toList) (hk : WW D B0 sA p l en R s m args below meth co Qf nL mc (swt (s32 x) a sw, ls, r, V, S, g)) : WW D B0 sA p l en R s m args below meth co Qf nL mc (pc, ls, (0, x) :: r, V, S, g) := by
  intro lsM H locs hC hP hL hq g1 g2
  have hk2 := hk lsM H locs hC hP hL hq g1 g2
  refine lv_lookup (x := i32 x) X.1 X.2.1 hd hp rfl ?_ hk2
  rw [← hs]
  show (pc : Int) + Op.lookupswitch.offset _ dflt (s32 x) = _
  clear hs hd hp hk hk2
  induction sw with
  | nil => exact ha
  | cons q sw ih =>
    obtain ⟨k, t⟩ := q
    rw [List.map_cons]
    unfold swt Op.lookupswitch.offset
    by_cases h : s32 x = k
    · rw [if_pos h]
      simp [h]
      try omega
    · rw [if_neg h]
      have e : ¬ k = s32 x := fun z => h z.symm
      simp only [beq_iff_eq, e, if_false]
      exact ih
end MK
