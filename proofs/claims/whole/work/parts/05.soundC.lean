/-! the JDK's own methods of strings, by hand -/
section EX
variable {D : va_G} {B0 : Nat} {sA : Nat → Nat} {p : Program} {l : Launch} {en : Env} {R : Room} {s : State} {m : MethodId} {args : Array Value} {below : List Frame} {meth : Method} {co : Code} {Qf : State → Prop} {nL : Nat} {mc : Cnt}
variable {own : String} {Ts : List Cond} {cc : ByteArray} {pc : Nat} {ls : List XV} {r : List XV} {V : Mem} {S : Shp} {g : Cnt}
theorem i2c_small : ∀ n : Nat, n < 128 → ((Int32.ofInt (n : Int)).toUInt32 % 65536).toInt32 = Int32.ofInt (n : Int) := by decide +kernel
theorem and_small : ∀ n : Nat, n < 128 → iandI (n : Int) 255 = (n : Int) := by decide +kernel
theorem shr_small : ∀ n : Nat, n < 128 → ishrI (n : Int) 0 = (n : Int) := by decide +kernel
theorem nar_char : ∀ n : Nat, n < 128 → narrow .char (.int (i32 (n : Int))) = .int (i32 (n : Int)) := by decide +kernel
theorem s32_small {x : Int} (h0 : 0 ≤ x) (h1 : x < 2147483648) : s32 x = x := by
  show (Int32.ofInt x).toInt = x
  rw [Int32.toInt_ofInt]
  have h32 : Int32.size = 4294967296 := rfl
  exact Int.bmod_eq_of_le (by omega) (by omega)
theorem st_i2c (X : CTX p R s m args co nL mc own Ts cc) {x : Int} (h0 : 0 ≤ x) (h1 : x < 128) (hd : decode cc pc = .ok (.i2c, 1)) (hk : WW D B0 sA p l en R s m args below meth co Qf nL mc (pc + 1, ls, (0, x) :: r, V, S, g)) : WW D B0 sA p l en R s m args below meth co Qf nL mc (pc, ls, (0, x) :: r, V, S, g) := by
  intro lsM H locs hC hP hL hq g1 g2
  obtain ⟨hx, hb, -⟩ := X
  have hk := hk lsM H locs hC hP hL hq g1 g2
  rw [List.map_cons] at hk
  refine lv_i2c (x := i32 x) (v := i32 x) hx hb hd ?_ hk
  have := i2c_small x.toNat (by omega)
  rw [show ((x.toNat : Nat) : Int) = x by omega] at this
  exact this
theorem st_gcoder (X : CTX p R s m args co nL mc own Ts cc) {idx : Nat} {o : Int} (ho : S.1 o = 130) (hw : Cond.fieldLink own idx "java/lang/String" "coder" "B" ∈ Tb) (hd : decode cc pc = .ok (.getfield idx, 3))
    (hk : WW D B0 sA p l en R s m args below meth co Qf nL mc (pc + 3, ls, (0, 0) :: r, V, S, g)) : WW D B0 sA p l en R s m args below meth co Qf nL mc (pc, ls, (2, o) :: r, V, S, g) := by
  intro lsM H locs hC hP hL hq g1 g2
  have hP : PPx D B0 sA s V S H := hP
  obtain ⟨hx, hb, hml, hown, hts, hTb, -⟩ := X
  have hk2 := hk lsM H locs hC hP hL hq g1 g2
  obtain ⟨k1, k2, k3, k4, k5, k6, k7, k8⟩ := (hP.2.2.2 o).2.2.2.1 ho
  obtain ⟨cf, k, fi, f, cell, h1, h2, h3, h4, h5, h6⟩ := k6
  show W p l en R s m args below meth co H locs g.1 g.2 Qf (F0 m pc lsM (toV sA (2, o) :: r.map (toV sA)))
  rw [toV_refA (by omega)]
  exact W.getf hx hb hown (hts _ (hTb _ hw)) h1 h2 h3 h4 (v := .int 0) h5 rfl rfl hd hk2
theorem st_gvalue (X : CTX p R s m args co nL mc own Ts cc) {idx : Nat} {o : Int} (ho : S.1 o = 130) (hw : Cond.fieldLink own idx "java/lang/String" "value" "[B" ∈ Tb) (hd : decode cc pc = .ok (.getfield idx, 3))
    (hk : WW D B0 sA p l en R s m args below meth co Qf nL mc (pc + 3, ls, (2, o - 100) :: r, V, S, g)) : WW D B0 sA p l en R s m args below meth co Qf nL mc (pc, ls, (2, o) :: r, V, S, g) := by
  intro lsM H locs hC hP hL hq g1 g2
  have hP : PPx D B0 sA s V S H := hP
  obtain ⟨hx, hb, hml, hown, hts, hTb, -⟩ := X
  have hk2 := hk lsM H locs hC hP hL hq g1 g2
  obtain ⟨k1, k2, k3, k4, k5, k6, k7, k8⟩ := (hP.2.2.2 o).2.2.2.1 ho
  obtain ⟨cf, k, fi, f, cell, h1, h2, h3, h4, h5, h6⟩ := k7
  show W p l en R s m args below meth co H locs g.1 g.2 Qf (F0 m pc lsM (toV sA (2, o) :: r.map (toV sA)))
  rw [toV_refA (by omega)]
  have e : toV sA (2, o - 100) = .ref (toA sA (o - 100)) := toV_refA (by omega)
  rw [List.map_cons, e] at hk2
  exact W.getf hx hb hown (hts _ (hTb _ hw)) h1 h2 h3 h4 (v := .ref (toA sA (o - 100))) h5 rfl rfl hd hk2
theorem st_alenS (X : CTX p R s m args co nL mc own Ts cc) {o : Int} (ho : S.1 o = 130) (hd : decode cc pc = .ok (.arraylength, 1))
    (hk : WW D B0 sA p l en R s m args below meth co Qf nL mc (pc + 1, ls, (0, S.2.1 o) :: r, V, S, g)) : WW D B0 sA p l en R s m args below meth co Qf nL mc (pc, ls, (2, o - 100) :: r, V, S, g) := by
  intro lsM H locs hC hP hL hq g1 g2
  have hP : PPx D B0 sA s V S H := hP
  obtain ⟨hx, hb, hml, hown, hts, hTb, -⟩ := X
  have hk2 := hk lsM H locs hC hP hL hq g1 g2
  rw [List.map_cons] at hk2
  obtain ⟨k1, k2, k3, k4, k5, k6, k7, cell, c1, c2, c3, c4, c5, c6, c7⟩ := (hP.2.2.2 o).2.2.2.1 ho
  show W p l en R s m args below meth co H locs g.1 g.2 Qf (F0 m pc lsM (toV sA (2, o - 100) :: r.map (toV sA)))
  rw [toV_refA (by omega)]
  refine W.alen (n := i32 (S.2.1 o)) hx hb c1 c2 ?_ rfl rfl hd hk2
  rw [c5]
  rw [← Int32.ofInt_eq_ofNat]
  exact congrArg Int32.ofInt (by omega)
theorem st_baldS (X : CTX p R s m args co nL mc own Ts cc) {o j : Int} (ho : S.1 o = 130) (hj0 : 0 ≤ s32 j) (hj1 : s32 j < S.2.1 o) (hd : decode cc pc = .ok (.baload, 1))
    (hk : WW D B0 sA p l en R s m args below meth co Qf nL mc (pc + 1, ls, (0, V o (s32 j)) :: r, V, S, g)) : WW D B0 sA p l en R s m args below meth co Qf nL mc (pc, ls, (0, j) :: (2, o - 100) :: r, V, S, g) := by
  intro lsM H locs hC hP hL hq g1 g2
  have hP : PPx D B0 sA s V S H := hP
  obtain ⟨hx, hb, hml, hown, hts, hTb, -⟩ := X
  have hk2 := hk lsM H locs hC hP hL hq g1 g2
  rw [List.map_cons] at hk2
  have hcl := clamp_eq hj0
  obtain ⟨k1, k2, k3, k4, k5, k6, k7, cell, c1, c2, c3, c4, c5, c6, c7⟩ := (hP.2.2.2 o).2.2.2.1 ho
  show W p l en R s m args below meth co H locs g.1 g.2 Qf (F0 m pc lsM (.int (i32 j) :: toV sA (2, o - 100) :: r.map (toV sA)))
  rw [toV_refA (by omega)]
  refine W.bald (v := toV sA (0, V o (s32 j))) hx hb c1 c2 c3 (idx_in hj0 hj1 c4) ?_ rfl rfl hd hk2
  rw [c6 _ (by omega)]
  show some (Value.int (Int32.ofInt (V o ((i32 j).toNatClampNeg : Int)))) = _
  rw [hcl]; rfl
theorem st_gcomp (X : CTX p R s m args co nL mc own Ts cc) {idx : Nat} (hw : Cond.fieldLink own idx "java/lang/String" "COMPACT_STRINGS" "Z" ∈ Tb) (hd : decode cc pc = .ok (.getstatic idx, 3))
    (hk : WW D B0 sA p l en R s m args below meth co Qf nL mc (pc + 3, ls, (0, 1) :: r, V, S, g)) : WW D B0 sA p l en R s m args below meth co Qf nL mc (pc, ls, r, V, S, g) := by
  intro lsM H locs hC hP hL hq g1 g2
  obtain ⟨hx, hb, hml, hown, hts, hTb, -⟩ := X
  have hk2 := hk lsM H locs hC hP hL hq g1 g2
  obtain ⟨cf, kf, fi, f, a, cell, h1, h2, h3, h4, h5, h6, h7, h8⟩ := hC.2.1.2.2.1
  exact W.gets hx hb hown (hts _ (hTb _ hw)) h1 h2 h3 h4 h5 (fun e => by rw [e] at h6; cases h6) (v := .int 1) h7 rfl hd hk2
theorem st_gsio (X : CTX p R s m args co nL mc own Ts cc) {idx : Nat} (hw : Cond.fieldLink own idx "jdk/internal/util/Preconditions" "SIOOBE_FORMATTER" "Ljava/util/function/BiFunction;" ∈ Tb) (hd : decode cc pc = .ok (.getstatic idx, 3))
    (hk : ∀ z, WW D B0 sA p l en R s m args below meth co Qf nL mc (pc + 3, ls, (2, z) :: r, V, S, g)) : WW D B0 sA p l en R s m args below meth co Qf nL mc (pc, ls, r, V, S, g) := by
  intro lsM H locs hC hP hL hq g1 g2
  obtain ⟨hx, hb, hml, hown, hts, hTb, -⟩ := X
  rcases hC.2.1.2.2.2 with h | ⟨t, h⟩
  · have hk2 := hk (-1) lsM H locs hC hP hL hq g1 g2
    obtain ⟨cf, kf, fi, f, a, cell, h1, h2, h3, h4, h5, h6, h7, h8⟩ := h
    exact W.gets hx hb hown (hts _ (hTb _ hw)) h1 h2 h3 h4 h5 (fun e => by rw [e] at h6; cases h6) (v := .null) h7 rfl hd hk2
  · have hk2 := hk (t : Int) lsM H locs hC hP hL hq g1 g2
    have e : toV sA (2, (t : Int)) = .ref t := by rw [toV_ref (by omega)]; rfl
    rw [List.map_cons, e] at hk2
    obtain ⟨cf, kf, fi, f, a, cell, h1, h2, h3, h4, h5, h6, h7, h8⟩ := h
    exact W.gets hx hb hown (hts _ (hTb _ hw)) h1 h2 h3 h4 h5 (fun e => by rw [e] at h6; cases h6) (v := .ref t) h7 rfl hd hk2
end EX
section EY
variable {D : va_G} {B0 : Nat} {sA : Nat → Nat} {l : Launch} {As : List XV} {V : Mem} {S : Shp} {w : Res}
theorem mets_ext {y d : Nat} (hpf : plainFor (mnm y) = true) (hcat : cats As ≤ mlo y)
    (body : ∀ {p : Program} {en : Env} {s : State} {m : MethodId} {below : List Frame} {meth : Method} {co : Code}, CTX p (rmD d (mcc y)) s m (As.map (toV sA)).toArray co (mlo y) (mcc y) (mnm y).cls (wsM y) (mby y) → meth.locks = false → meth.sig.returnType = mrt y →
      WW D B0 sA p l en (rmD d (mcc y)) s m (As.map (toV sA)).toArray below meth co (MQ below (PostM D B0 sA w) (As.map (toV sA)).toArray s (mcc y).1 (mcc y).2 (fun q => B0 ≤ q)) (mlo y) (mcc y) (0, entL As (mlo y), [], V, S, (0, 0))) : METF D B0 sA l d y As V S w := by
  refine va_MetF (cc := mby y) (maxL := mlo y) (ret := mrt y) (ws' := Tb) hpf rfl ?_
  intro p e s m args below meth co s1 B hml hP
  obtain ⟨hv, hC, hP⟩ := hP
  subst hv
  have hts := atoms_spec (ws := wsM y) B.pre
  have hown : s.vm.findClass (mnm y).cls = some m.cls := findClass_of_methodNamed B.named
  have hW := body (en := e) (below := below) ⟨B.exec, B.bytes, hml, hown, hts, fun w hw => List.mem_cons_of_mem _ hw, Nat.le_refl _, Nat.le_refl _⟩ B.notSynchronized B.returns
  rw [lg_entry_eq]
  exact hW _ s.heap [] hC hP (loc_entry hcat) (fun q hq => absurd hq List.not_mem_nil) (Nat.zero_le _) (Nat.zero_le _)
theorem okm_of {y : Nat} (h : (tbB (pY y) (.code (mnm y) (mby y) (mlo y) (mrt y)) && (tbB 99 (.initialized (mnm y).cls) || tbB 100 (.initialized (mnm y).cls) || tbB 101 (.initialized (mnm y).cls)) && decide ((mnm y).cls ≠ "java/lang/invoke/MethodHandle" ∧ (mnm y).cls ≠ "java/lang/invoke/VarHandle") && decide (mlo y ≤ 30)) = true) : OKM y := by
  simp only [Bool.and_eq_true, Bool.or_eq_true, decide_eq_true_eq] at h
  obtain ⟨⟨⟨h1, h2⟩, h3⟩, h4⟩ := h
  exact ⟨tb_of h1, by rcases h2 with (h2 | h2) | h2 <;> exact tb_of h2, h3, h4⟩
theorem okm3 : OKM 9003 := okm_of (by decide +kernel)
theorem okm4 : OKM 9004 := okm_of (by decide +kernel)
theorem okm5 : OKM 9005 := okm_of (by decide +kernel)
theorem okm6 : OKM 9006 := okm_of (by decide +kernel)
theorem okm7 : OKM 9007 := okm_of (by decide +kernel)
theorem pf1 : plainFor (mnm 9001) = true := by decide +kernel
theorem pf2 : plainFor (mnm 9002) = true := by decide +kernel
theorem pf3 : plainFor (mnm 9003) = true := by decide +kernel
theorem pf4 : plainFor (mnm 9004) = true := by decide +kernel
theorem pf5 : plainFor (mnm 9005) = true := by decide +kernel
theorem pf6 : plainFor (mnm 9006) = true := by decide +kernel
theorem pf7 : plainFor (mnm 9007) = true := by decide +kernel
theorem mcz : ∀ y, 9000 < y → mcc y = (0, 0) := by
  intro y hy
  have h : ∀ k, k < 9000 → Nat.beq y k = false := fun k hk => by
    cases h : Nat.beq y k with
    | false => rfl
    | true => have := Nat.eq_of_beq_eq_true h; omega
  unfold mcc
  simp [h]
theorem met_coder {d : Nat} {o : Int} (ho : S.1 o = 130) : METF D B0 sA l d 9003 [(2, o)] V S (some (0, 0), V, S) := by
  refine mets_ext pf3 (show 1 ≤ mlo 9003 by decide +kernel) ?_
  intro p en s m below meth co X hlocks hr
  refine st_gcomp X (idx := 38) (tb_of (i := 713) (by decide +kernel)) (dcB_at (by decide +kernel)) ?_
  refine st_if_eq X (off := 10) (tgt := 13) (by decide) (dcB_at (by decide +kernel)) ⟨fun z => absurd z (by decide), fun _ => ?_⟩
  refine st_aload_n X (n := 0) (x := o) rfl (dcB_at (by decide +kernel)) ?_
  refine st_gcoder X (idx := 15) ho (tb_of (i := 1723) (by decide +kernel)) (dcB_at (by decide +kernel)) ?_
  refine st_goto X (off := 4) (tgt := 14) (by decide) (dcB_at (by decide +kernel)) ?_
  exact st_iret X (ty := .byte) hlocks (hr.trans (by decide +kernel)) rfl (dcB_at (by decide +kernel))
theorem met_latin {d : Nat} {o : Int} (ho : S.1 o = 130) : METF D B0 sA l d 9004 [(2, o)] V S (some (0, 1), V, S) := by
  refine mets_ext pf4 (show 1 ≤ mlo 9004 by decide +kernel) ?_
  intro p en s m below meth co X hlocks hr
  refine st_gcomp X (idx := 38) (tb_of (i := 713) (by decide +kernel)) (dcB_at (by decide +kernel)) ?_
  refine st_if_eq X (off := 14) (tgt := 17) (by decide) (dcB_at (by decide +kernel)) ⟨fun z => absurd z (by decide), fun _ => ?_⟩
  refine st_aload_n X (n := 0) (x := o) rfl (dcB_at (by decide +kernel)) ?_
  refine st_gcoder X (idx := 15) ho (tb_of (i := 1723) (by decide +kernel)) (dcB_at (by decide +kernel)) ?_
  refine st_if_ne X (off := 7) (tgt := 17) (by decide) (dcB_at (by decide +kernel)) ⟨fun _ => ?_, fun z => absurd rfl z⟩
  refine st_iconst X (n := 1) (dcB_at (by decide +kernel)) ?_
  refine st_goto X (off := 4) (tgt := 18) (by decide) (dcB_at (by decide +kernel)) ?_
  exact st_iret X (ty := .boolean) hlocks (hr.trans (by decide +kernel)) rfl (dcB_at (by decide +kernel))
theorem met_prec {d : Nat} {i n z : Int} (h0 : 0 ≤ s32 i) (h1 : s32 i < s32 n) : METF D B0 sA l d 9007 [(0, i), (0, n), (2, z)] V S (some (0, i), V, S) := by
  refine mets_ext pf7 (show 3 ≤ mlo 9007 by decide +kernel) ?_
  intro p en s m below meth co X hlocks hr
  refine st_iload_n X (n := 0) (x := i) rfl (dcB_at (by decide +kernel)) ?_
  refine st_if_lt X (off := 8) (tgt := 9) (by decide) (dcB_at (by decide +kernel)) ⟨fun z => absurd z (by omega), fun _ => ?_⟩
  refine st_iload_n X (n := 0) (x := i) rfl (dcB_at (by decide +kernel)) ?_
  refine st_iload_n X (n := 1) (x := n) rfl (dcB_at (by decide +kernel)) ?_
  refine st_icmp_lt X (off := 10) (tgt := 16) (by decide) (dcB_at (by decide +kernel)) ⟨fun _ => ?_, fun z => absurd h1 z⟩
  refine st_iload_n X (n := 0) (x := i) rfl (dcB_at (by decide +kernel)) ?_
  exact st_iret X (ty := .int) hlocks (hr.trans (by decide +kernel)) rfl (dcB_at (by decide +kernel))
theorem met_chk {d : Nat} {i n : Int} (h0 : 0 ≤ s32 i) (h1 : s32 i < s32 n) : METF D B0 sA l (d + 1) 9006 [(0, i), (0, n)] V S (none, V, S) := by
  refine mets_ext pf6 (show 2 ≤ mlo 9006 by decide +kernel) ?_
  intro p en s m below meth co X hlocks hr
  refine st_iload_n X (n := 0) (x := i) rfl (dcB_at (by decide +kernel)) ?_
  refine st_iload_n X (n := 1) (x := n) rfl (dcB_at (by decide +kernel)) ?_
  refine st_gsio X (idx := 1053) (tb_of (i := 729) (by decide +kernel)) (dcB_at (by decide +kernel)) (fun z => ?_)
  refine st_callS X (d := d) (y := 9007) (idx := 1059) (n := 3) (As := [(0, i), (0, n), (2, z)]) (rest := []) okm7 (by decide +kernel) rfl (Nat.le_refl _) (Nat.le_refl _) (Or.inl (tb_of (i := 731) (by decide +kernel))) (tb_of (i := 732) (by decide +kernel)) (met_prec h0 h1) rfl (by decide) ?_ (dcB_at (by decide +kernel)) ?_
  · rw [mcz _ (by decide), mcz _ (by decide)]; exact ⟨Nat.le_refl _, Nat.le_refl _⟩
  refine st_pop X (t := 0) (x := i) (by decide) (dcB_at (by decide +kernel)) ?_
  exact st_vret X hlocks (hr.trans (by decide +kernel)) (dcB_at (by decide +kernel))
theorem str_small {s : State} {H : Heap} {o : Int} (ho : S.1 o = 130) (hP : PPx D B0 sA s V S H) : (0 ≤ S.2.1 o ∧ S.2.1 o < 100) ∧ ∀ j, 0 ≤ V o j ∧ V o j < 128 := by
  obtain ⟨k1, k2, k3, k4, -⟩ := (hP.2.2.2 o).2.2.2.1 ho
  exact ⟨⟨k2, k3⟩, k4⟩
theorem met_lat {d : Nat} {o i : Int} (ho : S.1 o = 130) (h0 : 0 ≤ s32 i) (h1 : s32 i < S.2.1 o) : METF D B0 sA l (d + 2) 9005 [(2, o - 100), (0, i)] V S (some (0, V o (s32 i)), V, S) := by
  refine mets_ext pf5 (show 2 ≤ mlo 9005 by decide +kernel) ?_
  intro p en s m below meth co X hlocks hr
  intro lsM H locs hC hP
  obtain ⟨⟨k1, k2⟩, k3⟩ := str_small (V := V) (S := S) ho hP
  revert lsM H locs
  suffices WW D B0 sA p l en (rmD (d + 2) (mcc 9005)) s m ([(2, o - 100), (0, i)].map (toV sA)).toArray below meth co (MQ below (PostM D B0 sA (some (0, V o (s32 i)), V, S)) ([(2, o - 100), (0, i)].map (toV sA)).toArray s (mcc 9005).1 (mcc 9005).2 (fun q => B0 ≤ q)) (mlo 9005) (mcc 9005) (0, entL [(2, o - 100), (0, i)] (mlo 9005), [], V, S, (0, 0)) from fun lsM H locs hC hP => this lsM H locs hC hP
  have hN : s32 (S.2.1 o) = S.2.1 o := s32_small k1 (by omega)
  refine st_iload_n X (n := 1) (x := i) rfl (dcB_at (by decide +kernel)) ?_
  refine st_aload_n X (n := 0) (x := o - 100) rfl (dcB_at (by decide +kernel)) ?_
  refine st_alenS X ho (dcB_at (by decide +kernel)) ?_
  refine st_callS X (d := d + 1) (y := 9006) (idx := 9) (n := 2) (As := [(0, i), (0, S.2.1 o)]) (rest := []) okm6 (by decide +kernel) rfl (Nat.le_refl _) (Nat.le_refl _) (Or.inl (tb_of (i := 726) (by decide +kernel))) (tb_of (i := 727) (by decide +kernel)) (met_chk h0 (by rw [hN]; exact h1)) rfl (by decide) ?_ (dcB_at (by decide +kernel)) ?_
  · rw [mcz _ (by decide), mcz _ (by decide)]; exact ⟨Nat.le_refl _, Nat.le_refl _⟩
  refine st_aload_n X (n := 0) (x := o - 100) rfl (dcB_at (by decide +kernel)) ?_
  refine st_iload_n X (n := 1) (x := i) rfl (dcB_at (by decide +kernel)) ?_
  refine st_baldS X ho h0 h1 (dcB_at (by decide +kernel)) ?_
  refine st_sipush X (n := 255) (b := 255) (by decide) (dcB_at (by decide +kernel)) ?_
  refine st_iand X (dcB_at (by decide +kernel)) ?_
  obtain ⟨q1, q2⟩ := k3 (s32 i)
  have e : iandI (V o (s32 i)) 255 = V o (s32 i) := by
    have := and_small (V o (s32 i)).toNat (by omega)
    rw [show (((V o (s32 i)).toNat : Nat) : Int) = V o (s32 i) by omega] at this
    exact this
  rw [e]
  refine st_i2c X q1 q2 (dcB_at (by decide +kernel)) ?_
  refine st_iret X (ty := .char) hlocks (hr.trans (by decide +kernel)) ?_ (dcB_at (by decide +kernel))
  have := nar_char (V o (s32 i)).toNat (by omega)
  rw [show (((V o (s32 i)).toNat : Nat) : Int) = V o (s32 i) by omega] at this
  exact this
theorem met_len {d : Nat} {o : Int} (ho : S.1 o = 130) : METF D B0 sA l (d + 1) 9001 [(2, o)] V S (some (0, S.2.1 o), V, S) := by
  refine mets_ext pf1 (show 1 ≤ mlo 9001 by decide +kernel) ?_
  intro p en s m below meth co X hlocks hr
  intro lsM H locs hC hP
  obtain ⟨⟨k1, k2⟩, k3⟩ := str_small (V := V) (S := S) ho hP
  revert lsM H locs
  suffices WW D B0 sA p l en (rmD (d + 1) (mcc 9001)) s m ([(2, o)].map (toV sA)).toArray below meth co (MQ below (PostM D B0 sA (some (0, S.2.1 o), V, S)) ([(2, o)].map (toV sA)).toArray s (mcc 9001).1 (mcc 9001).2 (fun q => B0 ≤ q)) (mlo 9001) (mcc 9001) (0, entL [(2, o)] (mlo 9001), [], V, S, (0, 0)) from fun lsM H locs hC hP => this lsM H locs hC hP
  refine st_aload_n X (n := 0) (x := o) rfl (dcB_at (by decide +kernel)) ?_
  refine st_gvalue X (idx := 9) ho (tb_of (i := 1722) (by decide +kernel)) (dcB_at (by decide +kernel)) ?_
  refine st_alenS X ho (dcB_at (by decide +kernel)) ?_
  refine st_aload_n X (n := 0) (x := o) rfl (dcB_at (by decide +kernel)) ?_
  refine st_callV X (d := d) (y := 9003) (idx := 335) (n := 0) (o := o) (As := []) (rest := [(0, S.2.1 o)]) okm3 (by decide +kernel) rfl (Nat.le_refl _) (Nat.le_refl _) (tb_of (i := 709) (by decide +kernel)) (tb_of (i := 710) (by decide +kernel)) (tb_of (i := 711) (by decide +kernel)) (met_coder ho) (fun H hC hP => ?_) rfl (show (1 : Nat) ≤ 8 by decide) ?_ (dcB_at (by decide +kernel)) ?_
  · rw [show (mnm 9003).cls = "java/lang/String" by decide +kernel]; exact str_recv ho H hC hP
  · rw [mcz _ (by decide), mcz _ (by decide)]; exact ⟨Nat.le_refl _, Nat.le_refl _⟩
  refine st_ishr X (x := S.2.1 o) (y := 0) (dcB_at (by decide +kernel)) ?_
  have e : ishrI (S.2.1 o) 0 = S.2.1 o := by
    have := shr_small (S.2.1 o).toNat (by omega)
    rw [show (((S.2.1 o).toNat : Nat) : Int) = S.2.1 o by omega] at this
    exact this
  rw [e]
  exact st_iret X (ty := .int) hlocks (hr.trans (by decide +kernel)) rfl (dcB_at (by decide +kernel))
theorem met_cha {d : Nat} {o i : Int} (ho : S.1 o = 130) (h0 : 0 ≤ s32 i) (h1 : s32 i < S.2.1 o) : METF D B0 sA l (d + 3) 9002 [(2, o), (0, i)] V S (some (0, V o (s32 i)), V, S) := by
  refine mets_ext pf2 (show 2 ≤ mlo 9002 by decide +kernel) ?_
  intro p en s m below meth co X hlocks hr
  intro lsM H locs hC hP
  obtain ⟨⟨k1, k2⟩, k3⟩ := str_small (V := V) (S := S) ho hP
  revert lsM H locs
  suffices WW D B0 sA p l en (rmD (d + 3) (mcc 9002)) s m ([(2, o), (0, i)].map (toV sA)).toArray below meth co (MQ below (PostM D B0 sA (some (0, V o (s32 i)), V, S)) ([(2, o), (0, i)].map (toV sA)).toArray s (mcc 9002).1 (mcc 9002).2 (fun q => B0 ≤ q)) (mlo 9002) (mcc 9002) (0, entL [(2, o), (0, i)] (mlo 9002), [], V, S, (0, 0)) from fun lsM H locs hC hP => this lsM H locs hC hP
  refine st_aload_n X (n := 0) (x := o) rfl (dcB_at (by decide +kernel)) ?_
  refine st_callV X (d := d + 2) (y := 9004) (idx := 492) (n := 0) (o := o) (As := []) (rest := []) okm4 (by decide +kernel) rfl (Nat.le_refl _) (Nat.le_refl _) (tb_of (i := 719) (by decide +kernel)) (tb_of (i := 720) (by decide +kernel)) (tb_of (i := 721) (by decide +kernel)) (met_latin ho) (fun H hC hP => ?_) rfl (by decide) ?_ (dcB_at (by decide +kernel)) ?_
  · rw [show (mnm 9004).cls = "java/lang/String" by decide +kernel]; exact str_recv ho H hC hP
  · rw [mcz _ (by decide), mcz _ (by decide)]; exact ⟨Nat.le_refl _, Nat.le_refl _⟩
  refine st_if_eq X (x := 1) (off := 12) (tgt := 16) (by decide) (dcB_at (by decide +kernel)) ⟨fun z => absurd z (by decide), fun _ => ?_⟩
  refine st_aload_n X (n := 0) (x := o) rfl (dcB_at (by decide +kernel)) ?_
  refine st_gvalue X (idx := 9) ho (tb_of (i := 1722) (by decide +kernel)) (dcB_at (by decide +kernel)) ?_
  refine st_iload_n X (n := 1) (x := i) rfl (dcB_at (by decide +kernel)) ?_
  refine st_callS X (d := d + 2) (y := 9005) (idx := 495) (n := 2) (As := [(2, o - 100), (0, i)]) (rest := []) okm5 (by decide +kernel) rfl (Nat.le_refl _) (Nat.le_refl _) (Or.inl (tb_of (i := 723) (by decide +kernel))) (tb_of (i := 724) (by decide +kernel)) (met_lat ho h0 h1) rfl (by decide) ?_ (dcB_at (by decide +kernel)) ?_
  · rw [mcz _ (by decide), mcz _ (by decide)]; exact ⟨Nat.le_refl _, Nat.le_refl _⟩
  obtain ⟨q1, q2⟩ := k3 (s32 i)
  refine st_iret X (ty := .char) hlocks (hr.trans (by decide +kernel)) ?_ (dcB_at (by decide +kernel))
  have := nar_char (V o (s32 i)).toNat (by omega)
  rw [show (((V o (s32 i)).toNat : Nat) : Int) = V o (s32 i) by omega] at this
  exact this
theorem ext_mets {d y : Nat} (h : extR y As V S w) : METS D B0 sA l d y As V S w := by
  unfold extR at h
  split at h
  · obtain ⟨o, rfl, ho, rfl⟩ := h
    exact met_len (d := d + 5) ho
  · obtain ⟨o, i, rfl, ho, h0, h1, rfl⟩ := h
    exact met_cha (d := d + 3) ho h0 h1
  · exact h.elim
theorem YT_ids : YT.all (fun q => Nat.blt q.1 9000 || Nat.blt 9000 q.1) = true := by decide +kernel
/-- SOUNDNESS: what the abstract machine runs, the machine runs -/
theorem sound : ∀ (d y n k : Nat) (As : List XV) (V : Mem) (S : Shp) (w : Res), YT.any (fun q => Nat.beq q.1 y && Nat.beq q.2.1 n && Nat.beq q.2.2.1 k) = true → Run MM d y As V S w → METS D B0 sA l d y As V S w := by
  intro d
  induction d with
  | zero => intro y n k As V S w _ h; exact h.elim
  | succ d ih =>
    intro y n k As V S w hY h
    obtain ⟨q, hq, h1⟩ := List.any_eq_true.mp hY
    simp only [Bool.and_eq_true] at h1
    have h2 := List.all_eq_true.mp YT_ids q hq
    have hy : q.1 = y := Nat.eq_of_beq_eq_true h1.1.1
    rw [Bool.or_eq_true, Nat.blt_eq, Nat.blt_eq, hy] at h2
    rcases h2 with h2 | h2
    · exact mets_of hY h2 (hy ▸ CK_all q hq (by rw [hy]; exact h2)) ih h
    · exact ext_mets (run_big h2 h)
end EY
