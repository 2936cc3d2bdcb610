/-! the rules of the heap -/
section HP
variable {D : va_G} {B0 : Nat} {sA : Nat → Nat} {p : Program} {l : Launch} {en : Env} {R : Room} {s : State} {m : MethodId} {args : Array Value} {below : List Frame} {meth : Method} {co : Code} {Qf : State → Prop} {nL : Nat} {mc : Cnt}
variable {own : String} {Ts : List Cond} {cc : ByteArray} {pc : Nat} {ls : List XV} {r : List XV} {V : Mem} {S : Shp} {g : Cnt}
theorem toV_ref {x : Int} (h : 0 ≤ x) : toV sA (2, x) = .ref x.toNat := by
  show va_rf (rfo sA x) = _
  unfold rfo toA
  rw [if_neg (by omega), if_pos h]
  rfl
theorem toV_refA {x : Int} (h : x ≠ -1) : toV sA (2, x) = .ref (toA sA x) := by
  show va_rf (rfo sA x) = _
  unfold rfo
  rw [if_neg h]
  rfl
theorem toV_null : toV sA (2, -1) = .null := rfl
theorem toF_ref {x : Int} (h : 0 ≤ x) : toF sA 2 x = .ref x.toNat := toV_ref h
theorem kty_obj {ci : Nat} (h : ci < 13) : kty (ci : Int) = none := by
  unfold kty
  rw [if_neg (by omega), if_neg (by omega), if_neg (by omega), if_neg (by omega), if_neg (by omega)]
theorem kty_ref {ci : Nat} (h : ci < 13) : kty (110 + (ci : Int)) = some (.object (clN ci)) := by
  unfold kty
  rw [if_neg (by omega), if_neg (by omega), if_neg (by omega), if_neg (by omega), if_pos (by omega), show (110 + (ci : Int) - 110).toNat = ci by omega]
theorem kty_fro : kty 104 = none := rfl
theorem kty_some {k : Int} {ty : FieldType} (h : kty k = some ty) : k = 100 ∨ k = 101 ∨ k = 102 ∨ k = 103 ∨ (110 ≤ k ∧ k < 123) := by
  unfold kty at h
  split at h
  · omega
  split at h
  · omega
  split at h
  · omega
  split at h
  · omega
  split at h
  · omega
  · cases h
theorem clamp_eq {x : Int} (h : 0 ≤ s32 x) : ((i32 x).toNatClampNeg : Int) = s32 x := by
  show ((s32 x).toNat : Int) = s32 x
  omega
theorem idx_in {x N : Int} (h0 : 0 ≤ s32 x) (h : s32 x < N) {n : Nat} (hn : N.toNat ≤ n) : ¬ (i32 x < 0 ∨ n ≤ (i32 x).toNatClampNeg) := by
  rintro (h1 | h1)
  · have := (i32_lt0 x).mp h1
    omega
  · have := clamp_eq h0
    omega
theorem st_getfield (X : CTX p R s m args co nL mc own Ts cc) {idx ci k t : Nat} {b o : Int} (hci : ci < 13) (hk : k < nfC ci) (hbk : b = (k : Int)) (hw : Cond.fieldLink own idx (TF ci k).1 (TF ci k).2.1 (TF ci k).2.2.1 ∈ Tb) (hin : ∀ w ∈ u_ws (clN ci) (TF ci) (nfC ci), w ∈ Tb)
    (ht : ∀ x : Int, toF sA t x = toF sA (ftg (tyC ci k)) x) (hd : decode cc pc = .ok (.getfield idx, 3)) (hkk : S.1 o = (ci : Int) ∧ WW D B0 sA p l en R s m args below meth co Qf nL mc (pc + 3, ls, (t, V o b) :: r, V, S, g)) :
    WW D B0 sA p l en R s m args below meth co Qf nL mc (pc, ls, (2, o) :: r, V, S, g) := by
  intro lsM H locs hC hP hL hq g1 g2
  have hP : PPx D B0 sA s V S H := hP
  obtain ⟨hx, hb, hml, hown, hts, hTb, -⟩ := X
  obtain ⟨k1, k2, cell, q1, q2, q3, q4⟩ := (hP.2.2.2 o).1 ci hkk.1 hci
  obtain ⟨hS, hfc, kC, hkC, hkind⟩ := hC.1 ci _ (vw_at ci hci)
  obtain ⟨cf, kf, fi, f, hi, hsl⟩ := hS k hk
  have hk2 := hkk.2 lsM H locs hC hP hL hq g1 g2
  subst hbk
  rw [List.map_cons] at hk2
  show W p l en R s m args below meth co H locs g.1 g.2 Qf (F0 m pc lsM (toV sA (2, o) :: r.map (toV sA)))
  rw [toV_ref k1]
  refine W.getf hx hb hown (hts _ (hTb _ hw)) hi (u_facts hfc hkC (u_lays hts (fun w h => hTb _ (hin w h)) hk) hi).1 q1 (by rw [q3]; exact fun h => by cases h) (v := toV sA (t, V o k)) ?_ rfl rfl hd hk2
  rw [hsl, q4 k hk]
  exact congrArg some (ht _).symm
theorem st_putfield (X : CTX p R s m args co nL mc own Ts cc) {idx ci k t : Nat} {b o x : Int} (hci : ci < 13) (hk : k < nfC ci) (hbk : b = (k : Int)) (hw : Cond.fieldLink own idx (TF ci k).1 (TF ci k).2.1 (TF ci k).2.2.1 ∈ Tb) (hin : ∀ w ∈ u_ws (clN ci) (TF ci) (nfC ci), w ∈ Tb)
    (hfin : (TF ci k).2.2.2 = false ∨ (meth.name = "<init>" ∧ (TF ci k).1 = own ∧ (TF ci k).2.2.2 = true)) (ht : toF sA t x = toF sA (ftg (tyC ci k)) x) (hn : narrow (tyC ci k) (toF sA t x) = toF sA t x) (hfit : fits (tyC ci k) (toF sA t x) = true)
    (hd : decode cc pc = .ok (.putfield idx, 3)) (hko : S.1 o = (ci : Int)) (hkk : WW D B0 sA p l en R s m args below meth co Qf nL mc (pc + 3, ls, r, up2 V o b x, S, g)) :
    WW D B0 sA p l en R s m args below meth co Qf nL mc (pc, ls, (t, x) :: (2, o) :: r, V, S, g) := by
  intro lsM H locs hC hP hL hq g1 g2
  have hP : PPx D B0 sA s V S H := hP
  obtain ⟨hx, hb, hml, hown, hts, hTb, -⟩ := X
  obtain ⟨k1, k2, cell, q1, q2, q3, q4⟩ := (hP.2.2.2 o).1 ci hko hci
  have hin2 : ∀ w ∈ u_ws (clN ci) (TF ci) (nfC ci), w ∈ Ts := fun w h => hTb _ (hin w h)
  have hK : va_K D vwCl [] s := ⟨hC.1, fun k q h => by simp at h⟩
  have hap := va_apart (own := own) hts hin2 (tyC ci) (ty_at ci hci) (nm_at ci hci) hK (vw_at ci hci)
  obtain ⟨hS, hfc, kC, hkC, hkind⟩ := hC.1 ci _ (vw_at ci hci)
  obtain ⟨cf, kf, fi, f, hi, hsl⟩ := hS k hk
  have hlay := hts _ (hin2 _ (u_in_lay hk))
  have hlays := u_lays hts hin2 hk
  have hst := (u_facts hfc hkC hlays hi).1
  subst hbk
  have fin : ∀ (H' : Heap) (locs' : List Loc), H'[o.toNat]? = some (cell.setSlot f.slot (toF sA t x)) → H'.size = H.size → (∀ q : Nat, q ≠ o.toNat → H'[q]? = H[q]?) → locs' = locs ++ [⟨o.toNat, f.slot⟩] → W p l en R s m args below meth co H' locs' g.1 g.2 Qf (F0 m (pc + 3) lsM (r.map (toV sA))) := by
    intro H' locs' e1 e2 e3 e4
    rw [hsl] at e1
    refine hkk lsM H' locs' (hC.kept (fun q _ hn => e3 q (fun e => hn (by rw [e]; exact k2)))) (hP.put k1 k2 e2 e3 (fun b hb => ?_) ?_ ?_ ?_ ?_) hL (fun q hq' => ?_) g1 g2
    · funext j
      show up2 V o k x b j = V b j
      unfold up2
      rw [if_neg (fun z => hb z.1)]
    · intro c2 hc2 _
      have : c2 = ci := by rw [hko] at hc2; omega
      subst this
      refine ⟨k1, k2, t_OB.to (V := updV (fun k => toF sA (ftg (tyC c2 k)) (V o k)) k (toF sA t x)) ⟨_, e1, q2, q3, t_set q4 hap hk _⟩ (fun j hj => ?_)⟩
      unfold updV
      show _ = toF sA (ftg (tyC c2 j)) (up2 V o k x o j)
      unfold up2
      by_cases hjk : j = k
      · subst hjk
        rw [if_pos rfl, if_pos ⟨rfl, rfl⟩]
        exact ht
      · rw [if_neg hjk, if_neg (fun z => hjk (by omega))]
    · intro ty hty
      rw [hko, kty_obj hci] at hty
      cases hty
    · rw [hko]; omega
    · rw [hko]; omega
    · rw [e4] at hq'
      rcases List.mem_append.mp hq' with h | h
      · exact hq q h
      · rw [List.mem_singleton.mp h]; exact k2
  show W p l en R s m args below meth co H locs g.1 g.2 Qf (F0 m pc lsM (toV sA (t, x) :: toV sA (2, o) :: r.map (toV sA)))
  rw [toV_ref k1]
  rcases hfin with hfin | ⟨hin3, hdecl, hfin⟩
  · unfold u_lay at hlay
    rw [if_neg (by rw [hfin]; decide)] at hlay
    have h6 := u_store hfc hkC hkind hlay hi (ty_at ci hci k hk) hn hfit
    exact W.putK hx hb (f := f) ⟨hown, hts _ (hTb _ hw), ⟨_, _, _, hi⟩, hst⟩ (by rw [q2]; exact h6) q1 q3 (by rw [hsl]; exact k2_hasslot (q4 k hk)) rfl rfl hd fun H' e1 e2 e3 => fin H' _ e1 e2 e3 rfl
  · unfold u_lay at hlay
    rw [if_pos hfin] at hlay
    have hcf : m.cls = cf := by
      obtain ⟨_, _, c', _, _, _, -, -, hf', -, -, -, hown2, -⟩ := Cond.laysFinal_spec hlay
      have e1 : c' = cf := by have := hi.symm.trans hf'; simp at this; exact this.1.symm
      rw [hdecl] at hown2
      rw [← e1]; exact Option.some.inj (hown.symm.trans hown2)
    have h6 := u_fits hfc hkC hkind (Or.inr hlay) hi (ty_at ci hci k hk) hn hfit
    exact W.putFinK hx hb hown (hts _ (hTb _ hw)) hi hst hcf hin3 (by rw [q2]; exact h6) q1 q3 (by rw [hsl]; exact k2_hasslot (q4 k hk)) rfl rfl hd fun H' e1 e2 e3 => fin H' _ e1 e2 e3 rfl
theorem st_getstatic (X : CTX p R s m args co nL mc own Ts cc) {idx i : Nat} {n : String} (hi : (i = 0 ∧ n = "ABOVE") ∨ (i = 1 ∧ n = "BODIES")) (hw : Cond.fieldLink own idx "SunLamps$Acts" n "[I" ∈ Tb) (hd : decode cc pc = .ok (.getstatic idx, 3))
    (hkk : WW D B0 sA p l en R s m args below meth co Qf nL mc (pc + 3, ls, (2, -2 - (i : Int)) :: r, V, S, g)) : WW D B0 sA p l en R s m args below meth co Qf nL mc (pc, ls, r, V, S, g) := by
  intro lsM H locs hC hP hL hq g1 g2
  have hP : PPx D B0 sA s V S H := hP
  obtain ⟨hx, hb, hml, hown, hts, hTb, -⟩ := X
  have hk2 := hkk lsM H locs hC hP hL hq g1 g2
  have e : toV sA (2, -2 - (i : Int)) = .ref (sA i) := by
    rw [toV_refA (by omega)]
    unfold toA
    rw [if_neg (by omega)]
    congr 2
    omega
  rw [List.map_cons, e] at hk2
  have hZ : va_Z "SunLamps$Acts" n "[I" (.ref (sA i)) (fun q => B0 ≤ q) s H := by
    rcases hi with ⟨rfl, rfl⟩ | ⟨rfl, rfl⟩
    · exact hC.2.1.1
    · exact hC.2.1.2.1
  obtain ⟨cf, kf, fi, f, a, cell, h1, h2, h3, h4, h5, h6, h7, h8⟩ := hZ
  exact W.gets hx hb hown (hts _ (hTb _ hw)) h1 h2 h3 h4 h5 (fun e => by rw [e] at h6; cases h6) h7 rfl hd hk2
/-- what an array holds, by its kind -/
theorem st_alen (X : CTX p R s m args co nL mc own Ts cc) {o : Int} (hd : decode cc pc = .ok (.arraylength, 1)) (hko : 100 ≤ S.1 o ∧ S.1 o < 123) (hkk : WW D B0 sA p l en R s m args below meth co Qf nL mc (pc + 1, ls, (0, S.2.1 o) :: r, V, S, g)) :
    WW D B0 sA p l en R s m args below meth co Qf nL mc (pc, ls, (2, o) :: r, V, S, g) := by
  intro lsM H locs hC hP hL hq g1 g2
  have hP : PPx D B0 sA s V S H := hP
  obtain ⟨hx, hb, hml, hown, hts, hTb, -⟩ := X
  have hk2 := hkk lsM H locs hC hP hL hq g1 g2
  rw [List.map_cons] at hk2
  obtain ⟨p1, p2, p3, p4, p5⟩ := hP.2.2.2 o
  show W p l en R s m args below meth co H locs g.1 g.2 Qf (F0 m pc lsM (toV sA (2, o) :: r.map (toV sA)))
  have key : ∀ ty, kty (S.1 o) = some ty → W p l en R s m args below meth co H locs g.1 g.2 Qf (F0 m pc lsM (toV sA (2, o) :: r.map (toV sA))) := by
    intro ty hty
    obtain ⟨k1, k2, k3, k4, cA, k5, k6, k7⟩ := p2 ty hty
    rw [toV_ref k1]
    refine W.alen (n := i32 (S.2.1 o)) hx hb k7 (k5 _ _) ?_ rfl rfl hd hk2
    rw [arrV_size]
    show Int32.ofNat _ = _
    rw [← Int32.ofInt_eq_ofNat]
    exact congrArg Int32.ofInt (by omega)
  by_cases h4 : S.1 o = 104
  · obtain ⟨k1, k2, k3, cell, c1, c2, c3, c4, c5, c6, c7⟩ := p3 h4
    rw [toV_refA k1]
    refine W.alen (n := i32 (S.2.1 o)) hx hb c1 c2 ?_ rfl rfl hd hk2
    rw [c5]
    rw [← Int32.ofInt_eq_ofNat]
    exact congrArg Int32.ofInt (by omega)
  · have h5 : S.1 o = 100 ∨ S.1 o = 101 ∨ S.1 o = 102 ∨ S.1 o = 103 ∨ (110 ≤ S.1 o ∧ S.1 o < 123) := by omega
    rcases h5 with h | h | h | h | h
    · exact key .int (by rw [h]; rfl)
    · exact key .byte (by rw [h]; rfl)
    · exact key .boolean (by rw [h]; rfl)
    · exact key .long (by rw [h]; rfl)
    · refine key _ (by rw [show S.1 o = 110 + (((S.1 o - 110).toNat : Nat) : Int) by omega]; exact kty_ref (by omega))
theorem st_iaload (X : CTX p R s m args co nL mc own Ts cc) {o j : Int} (hd : decode cc pc = .ok (.iaload, 1)) (hko : (S.1 o = 100 ∨ S.1 o = 104) ∧ 0 ≤ s32 j ∧ s32 j < S.2.1 o) (hkk : WW D B0 sA p l en R s m args below meth co Qf nL mc (pc + 1, ls, (0, V o (s32 j)) :: r, V, S, g)) :
    WW D B0 sA p l en R s m args below meth co Qf nL mc (pc, ls, (0, j) :: (2, o) :: r, V, S, g) := by
  intro lsM H locs hC hP hL hq g1 g2
  have hP : PPx D B0 sA s V S H := hP
  obtain ⟨hx, hb, hml, hown, hts, hTb, -⟩ := X
  have hk2 := hkk lsM H locs hC hP hL hq g1 g2
  rw [List.map_cons] at hk2
  obtain ⟨p1, p2, p3, p4, p5⟩ := hP.2.2.2 o
  obtain ⟨h0, hj0, hj1⟩ := hko
  have hcl := clamp_eq hj0
  show W p l en R s m args below meth co H locs g.1 g.2 Qf (F0 m pc lsM (.int (i32 j) :: toV sA (2, o) :: r.map (toV sA)))
  rcases h0 with h0 | h0
  · obtain ⟨k1, k2, k3, k4, cA, k5, k6, k7⟩ := p2 .int (by rw [h0]; rfl)
    rw [toV_ref k1]
    refine W.iald (v := toV sA (0, V o (s32 j))) hx hb k7 (k5 _ _) (fun q => by cases q) ?_ ?_ rfl rfl hd hk2
    · rw [arrV_size]; exact idx_in hj0 hj1 (Nat.le_refl _)
    · rw [arrV_read _ _ (by omega), hcl]; rfl
  · obtain ⟨k1, k2, k3, cell, c1, c2, c3, c4, c5, c6, c7⟩ := p3 h0
    rw [toV_refA k1]
    refine W.iald (v := toV sA (0, V o (s32 j))) hx hb c1 c2 c3 (idx_in hj0 hj1 c4) ?_ rfl rfl hd hk2
    rw [c6 _ (by omega)]
    show some (Value.int (Int32.ofInt (V o ((i32 j).toNatClampNeg : Int)))) = _
    rw [hcl]; rfl
theorem st_xald (X : CTX p R s m args co nL mc own Ts cc) {o j : Int} {t : Nat} {ty : FieldType} {i : ClassFile.Instr} (hty : kty (S.1 o) = some ty) (ht : toF sA (ftg ty) (V o (s32 j)) = toF sA t (V o (s32 j)))
    (row : ∀ {a : Addr} {cell : Cell} {jj : Int32} {v : Value} {H : Heap} {locs : List Loc} {k1 k2 : Nat} {ls : Array Slot} {rest : List Value}, H[a]? = some cell → s.isArrayOf cell ty → cell.vm ≠ .unknown → ¬ (jj < 0 ∨ cell.slots.size ≤ jj.toNatClampNeg) → cell.slots[jj.toNatClampNeg]? = some v → decode cc pc = .ok (i, 1) →
      W p l en R s m args below meth co H locs k1 k2 Qf (F0 m (pc + 1) ls (v :: rest)) → W p l en R s m args below meth co H locs k1 k2 Qf (F0 m pc ls (.int jj :: .ref a :: rest)))
    (hd : decode cc pc = .ok (i, 1)) (hj0 : 0 ≤ s32 j) (hj1 : s32 j < S.2.1 o) (hkk : WW D B0 sA p l en R s m args below meth co Qf nL mc (pc + 1, ls, (t, V o (s32 j)) :: r, V, S, g)) :
    WW D B0 sA p l en R s m args below meth co Qf nL mc (pc, ls, (0, j) :: (2, o) :: r, V, S, g) := by
  intro lsM H locs hC hP hL hq g1 g2
  have hP : PPx D B0 sA s V S H := hP
  have hk2 := hkk lsM H locs hC hP hL hq g1 g2
  rw [List.map_cons] at hk2
  obtain ⟨p1, p2, p3, p4, p5⟩ := hP.2.2.2 o
  have hcl := clamp_eq hj0
  show W p l en R s m args below meth co H locs g.1 g.2 Qf (F0 m pc lsM (.int (i32 j) :: toV sA (2, o) :: r.map (toV sA)))
  obtain ⟨k1, k2, k3, k4, cA, k5, k6, k7⟩ := p2 ty hty
  rw [toV_ref k1]
  refine row k7 (k5 _ _) (fun q => by cases q) ?_ ?_ hd hk2
  · rw [arrV_size]; exact idx_in hj0 hj1 (Nat.le_refl _)
  · rw [arrV_read _ _ (by omega), hcl, ht]; rfl
/-- a store into an array of our own: what the heap is then -/
theorem PPx.arr {U : State} {V : Mem} {S : Shp} {H H1 : Heap} {o j x : Int} {ty : FieldType} {cA : ClassId} {v : Value} (hP : PPx D B0 sA U V S H) (hty : kty (S.1 o) = some ty) (hj0 : 0 ≤ s32 j) (k1 : 0 ≤ o) (k2 : B0 ≤ o.toNat) (k3 : 0 ≤ S.2.1 o) (k4 : S.2.1 o < 2147483648) (k5 : ArrOfT U cA ty) (k6 : va_RA U cA ty)
    (e1 : H1[o.toNat]? = some ((arrV cA (S.2.1 o).toNat (fun j => toF sA (ftg ty) (V o j))).setSlot (i32 j).toNatClampNeg v)) (hv : v = toF sA (ftg ty) x) (e2 : H1.size = H.size) (e3 : ∀ q : Nat, q ≠ o.toNat → H1[q]? = H[q]?) :
    PPx D B0 sA U (up2 V o (s32 j) x) S H1 := by
  have hk := kty_some hty
  refine hP.put k1 k2 e2 e3 (fun b hb => ?_) ?_ ?_ (by intro z; rw [z] at hty; cases hty) (by intro z; rw [z] at hty; cases hty)
  · funext i
    unfold up2
    rw [if_neg (fun z => hb z.1)]
  · intro ci h1 h2
    rw [h1] at hk
    omega
  · intro ty2 hty2
    rw [hty] at hty2
    cases hty2
    refine ⟨k1, k2, k3, k4, cA, k5, k6, ?_⟩
    rw [e1, arrV_store]
    congr 2
    funext q
    have hcl := clamp_eq hj0
    unfold updV up2
    by_cases hq : q = (i32 j).toNatClampNeg
    · rw [if_pos hq, if_pos ⟨rfl, by omega⟩]
      exact hv
    · rw [if_neg hq, if_neg (fun z => hq (by omega))]
theorem st_xast (X : CTX p R s m args co nL mc own Ts cc) {o j x y : Int} {t : Nat} {ty : FieldType} {i : ClassFile.Instr} {v : Value} (hty : kty (S.1 o) = some ty) (hv : v = toF sA (ftg ty) x)
    (row : ∀ {a : Addr} {cell : Cell} {jj : Int32} {H : Heap} {locs : List Loc} {k1 k2 : Nat} {ls : Array Slot} {rest : List Value}, H[a]? = some cell → s.isArrayOf cell ty → cell.vm ≠ .unknown → ¬ (jj < 0 ∨ cell.slots.size ≤ jj.toNatClampNeg) → decode cc pc = .ok (i, 1) →
      (∀ H' : Heap, H'[a]? = some (cell.setSlot jj.toNatClampNeg v) → H'.size = H.size → (∀ q : Nat, q ≠ a → H'[q]? = H[q]?) → W p l en R s m args below meth co H' (locs ++ [⟨a, jj.toNatClampNeg⟩]) k1 k2 Qf (F0 m (pc + 1) ls rest)) → W p l en R s m args below meth co H locs k1 k2 Qf (F0 m pc ls (toF sA t y :: .int jj :: .ref a :: rest)))
    (hd : decode cc pc = .ok (i, 1)) (hj0 : 0 ≤ s32 j) (hj1 : s32 j < S.2.1 o) (hkk : WW D B0 sA p l en R s m args below meth co Qf nL mc (pc + 1, ls, r, up2 V o (s32 j) x, S, g)) :
    WW D B0 sA p l en R s m args below meth co Qf nL mc (pc, ls, (t, y) :: (0, j) :: (2, o) :: r, V, S, g) := by
  intro lsM H locs hC hP hL hq g1 g2
  have hP : PPx D B0 sA s V S H := hP
  obtain ⟨p1, p2, p3, p4, p5⟩ := hP.2.2.2 o
  show W p l en R s m args below meth co H locs g.1 g.2 Qf (F0 m pc lsM (toF sA t y :: .int (i32 j) :: toV sA (2, o) :: r.map (toV sA)))
  obtain ⟨k1, k2, k3, k4, cA, k5, k6, k7⟩ := p2 ty hty
  rw [toV_ref k1]
  refine row k7 (k5 _ _) (fun q => by cases q) (by rw [arrV_size]; exact idx_in hj0 hj1 (Nat.le_refl _)) hd (fun H1 e1 e2 e3 => ?_)
  refine hkk lsM H1 _ (hC.kept (fun q _ hn => e3 q (fun e => hn (by rw [e]; exact k2)))) (hP.arr hty hj0 k1 k2 k3 k4 k5 k6 e1 hv e2 e3) hL (fun q hq' => ?_) g1 g2
  rcases List.mem_append.mp hq' with h | h
  · exact hq q h
  · rw [List.mem_singleton.mp h]; exact k2
theorem st_iastore (X : CTX p R s m args co nL mc own Ts cc) {o j x : Int} (hd : decode cc pc = .ok (.iastore, 1)) (hko : S.1 o = 100 ∧ 0 ≤ s32 j ∧ s32 j < S.2.1 o) (hkk : WW D B0 sA p l en R s m args below meth co Qf nL mc (pc + 1, ls, r, up2 V o (s32 j) x, S, g)) :
    WW D B0 sA p l en R s m args below meth co Qf nL mc (pc, ls, (0, x) :: (0, j) :: (2, o) :: r, V, S, g) :=
  st_xast X (ty := .int) (v := .int (i32 x)) (by rw [hko.1]; rfl) rfl (fun h1 h2 h3 h4 h5 kk => W.iast X.1 X.2.1 h1 h2 h3 h4 rfl rfl h5 kk) hd hko.2.1 hko.2.2 hkk
theorem st_lastore (X : CTX p R s m args co nL mc own Ts cc) {o j x : Int} (hd : decode cc pc = .ok (.lastore, 1)) (hko : S.1 o = 103 ∧ 0 ≤ s32 j ∧ s32 j < S.2.1 o) (hkk : WW D B0 sA p l en R s m args below meth co Qf nL mc (pc + 1, ls, r, up2 V o (s32 j) x, S, g)) :
    WW D B0 sA p l en R s m args below meth co Qf nL mc (pc, ls, (1, x) :: (0, j) :: (2, o) :: r, V, S, g) :=
  st_xast X (ty := .long) (v := .long (i64 x)) (by rw [hko.1]; rfl) rfl (fun h1 h2 h3 h4 h5 kk => W.last X.1 X.2.1 h1 h2 h3 h4 rfl rfl h5 kk) hd hko.2.1 hko.2.2 hkk
theorem st_bastore (X : CTX p R s m args co nL mc own Ts cc) {o j x : Int} (hd : decode cc pc = .ok (.bastore, 1)) (hko : S.1 o = 101 ∧ 0 ≤ s32 j ∧ s32 j < S.2.1 o) (hkk : WW D B0 sA p l en R s m args below meth co Qf nL mc (pc + 1, ls, r, up2 V o (s32 j) (Int.bmod x 256), S, g)) :
    WW D B0 sA p l en R s m args below meth co Qf nL mc (pc, ls, (0, x) :: (0, j) :: (2, o) :: r, V, S, g) :=
  st_xast X (ty := .byte) (v := narrow .byte (.int (i32 x))) (by rw [hko.1]; rfl) (congrArg Value.int (nar8 x).symm) (fun h1 h2 h3 h4 h5 kk => W.bast X.1 X.2.1 h1 h2 h3 h4 rfl rfl h5 kk) hd hko.2.1 hko.2.2 hkk
theorem nar_bool {x : Int} (h : s32 x = 0 ∨ s32 x = 1) : narrow .boolean (.int (i32 x)) = .int (i32 x) := by
  have e : i32 x = 0 ∨ i32 x = 1 := by
    rcases h with h | h
    · exact Or.inl ((i32_0 x).mpr h)
    · exact Or.inr (Int32.toInt_inj.mp h)
  rcases e with e | e <;> rw [e] <;> rfl
theorem st_zastore (X : CTX p R s m args co nL mc own Ts cc) {o j x : Int} (hd : decode cc pc = .ok (.bastore, 1)) (hko : (S.1 o = 102 ∧ 0 ≤ s32 j ∧ s32 j < S.2.1 o) ∧ (s32 x = 0 ∨ s32 x = 1)) (hkk : WW D B0 sA p l en R s m args below meth co Qf nL mc (pc + 1, ls, r, up2 V o (s32 j) x, S, g)) :
    WW D B0 sA p l en R s m args below meth co Qf nL mc (pc, ls, (0, x) :: (0, j) :: (2, o) :: r, V, S, g) :=
  st_xast X (ty := .boolean) (v := narrow .boolean (.int (i32 x))) (by rw [hko.1.1]; rfl) (nar_bool hko.2) (fun h1 h2 h3 h4 h5 kk => W.zast X.1 X.2.1 h1 h2 h3 h4 rfl rfl h5 kk) hd hko.1.2.1 hko.1.2.2 hkk
theorem st_baload (X : CTX p R s m args co nL mc own Ts cc) {o j : Int} (hd : decode cc pc = .ok (.baload, 1)) (hko : (S.1 o = 101 ∨ S.1 o = 102) ∧ 0 ≤ s32 j ∧ s32 j < S.2.1 o) (hkk : WW D B0 sA p l en R s m args below meth co Qf nL mc (pc + 1, ls, (0, V o (s32 j)) :: r, V, S, g)) :
    WW D B0 sA p l en R s m args below meth co Qf nL mc (pc, ls, (0, j) :: (2, o) :: r, V, S, g) := by
  rcases hko.1 with h | h
  · exact st_xald X (ty := .byte) (by rw [h]; rfl) rfl (fun h1 h2 h3 h4 h6 h5 kk => W.bald X.1 X.2.1 h1 h2 h3 h4 h6 rfl rfl h5 kk) hd hko.2.1 hko.2.2 hkk
  · exact st_xald X (ty := .boolean) (by rw [h]; rfl) rfl (fun h1 h2 h3 h4 h6 h5 kk => W.zald X.1 X.2.1 h1 h2 h3 h4 h6 rfl rfl h5 kk) hd hko.2.1 hko.2.2 hkk
theorem st_laload (X : CTX p R s m args co nL mc own Ts cc) {o j : Int} (hd : decode cc pc = .ok (.laload, 1)) (hko : S.1 o = 103 ∧ 0 ≤ s32 j ∧ s32 j < S.2.1 o) (hkk : WW D B0 sA p l en R s m args below meth co Qf nL mc (pc + 1, ls, (1, V o (s32 j)) :: r, V, S, g)) :
    WW D B0 sA p l en R s m args below meth co Qf nL mc (pc, ls, (0, j) :: (2, o) :: r, V, S, g) :=
  st_xald X (ty := .long) (by rw [hko.1]; rfl) rfl (fun h1 h2 h3 h4 h6 h5 kk => W.lald X.1 X.2.1 h1 h2 h3 h4 h6 rfl rfl h5 kk) hd hko.2.1 hko.2.2 hkk
theorem st_aaload (X : CTX p R s m args co nL mc own Ts cc) {ci : Nat} {o j : Int} (hci : ci < 13) (hd : decode cc pc = .ok (.aaload, 1)) (hko : S.1 o = 110 + (ci : Int) ∧ 0 ≤ s32 j ∧ s32 j < S.2.1 o) (hkk : WW D B0 sA p l en R s m args below meth co Qf nL mc (pc + 1, ls, (2, V o (s32 j)) :: r, V, S, g)) :
    WW D B0 sA p l en R s m args below meth co Qf nL mc (pc, ls, (0, j) :: (2, o) :: r, V, S, g) :=
  st_xald X (ty := .object (clN ci)) (by rw [hko.1]; exact kty_ref hci) rfl (fun h1 h2 h3 h4 h6 h5 kk => W.aald X.1 X.2.1 h1 h2 rfl h3 h4 h6 rfl rfl h5 kk) hd hko.2.1 hko.2.2 hkk
theorem st_aastore (X : CTX p R s m args co nL mc own Ts cc) {ci : Nat} {o j x : Int} (hci : ci < 13) (hd : decode cc pc = .ok (.aastore, 1)) (hko : (S.1 o = 110 + (ci : Int) ∧ 0 ≤ s32 j ∧ s32 j < S.2.1 o) ∧ (x = -1 ∨ S.1 x = (ci : Int))) (hkk : WW D B0 sA p l en R s m args below meth co Qf nL mc (pc + 1, ls, r, up2 V o (s32 j) x, S, g)) :
    WW D B0 sA p l en R s m args below meth co Qf nL mc (pc, ls, (2, x) :: (0, j) :: (2, o) :: r, V, S, g) := by
  obtain ⟨⟨h1, hj0, hj1⟩, h2⟩ := hko
  have hty : kty (S.1 o) = some (.object (clN ci)) := by rw [h1]; exact kty_ref hci
  rcases h2 with h2 | h2
  · subst h2
    exact st_xast X (ty := .object (clN ci)) (v := .null) hty rfl (fun h1 h2 h3 h4 h5 kk => va_WaastN X.1 X.2.1 h1 h2 h3 h4 rfl rfl h5 kk) hd hj0 hj1 hkk
  · intro lsM H locs hC hP hL hq g1 g2
    have hP : PPx D B0 sA s V S H := hP
    obtain ⟨p1, p2, p3, p4, p5⟩ := hP.2.2.2 o
    obtain ⟨k1, k2, k3, k4, cA, k5, k6, k7⟩ := p2 _ hty
    obtain ⟨x1, x2, cellV, v1, v2, v3, v4⟩ := (hP.2.2.2 x).1 ci h2 hci
    show W p l en R s m args below meth co H locs g.1 g.2 Qf (F0 m pc lsM (toV sA (2, x) :: .int (i32 j) :: toV sA (2, o) :: r.map (toV sA)))
    rw [toV_ref k1, toV_ref x1]
    have hcls := (hC.1 ci _ (vw_at ci hci)).2
    obtain ⟨kA, comp, a1, a2, a3, a4⟩ := id k6
    have hcomp : comp = D.1 ci := Option.some.inj (a3.symm.trans hcls.1)
    subst hcomp
    obtain ⟨kC, hkC, -⟩ := id hcls.2
    have hin := idx_in hj0 hj1 (Nat.le_refl (S.2.1 o).toNat)
    refine W.aast X.1 X.2.1 k7 (fun q h => by cases h) (fun h => by cases h) a1 a2 rfl hkC ⟨fun z => hin (Or.inl z), by rw [arrV_size]; exact Nat.not_le.mp fun z => hin (Or.inr z)⟩ v1 (fun q h => by rw [v3] at h; cases h) (by rw [v2]; exact hkC) (by rw [v2]; exact va_assign hcls) rfl rfl hd fun H1 e1 e2 e3 => ?_
    refine hkk lsM H1 _ (hC.kept (fun q _ hn => e3 q (fun e => hn (by rw [e]; exact k2)))) (hP.arr hty hj0 k1 k2 k3 k4 k5 k6 e1 (toF_ref x1).symm e2 e3) hL (fun q hq' => ?_) g1 g2
    rcases List.mem_append.mp hq' with h | h
    · exact hq q h
    · rw [List.mem_singleton.mp h]; exact k2
end HP
