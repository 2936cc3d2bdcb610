/-! one rule an instruction -/
def Tb : List Cond := lw_tbl.filter goodWord
section ST
variable (D : va_G) (B0 : Nat) (sA : Nat → Nat) (p : Program) (l : Launch) (en : Env) (R : Room) (s : State) (m : MethodId) (args : Array Value) (below : List Frame) (meth : Method) (co : Code) (Qf : State → Prop) (nL : Nat) (mc : Cnt)
def WW (c : Cfg) : Prop := ∀ (lsM : Array Slot) (H : Heap) (locs : List Loc), CX D B0 sA s H → PPx D B0 sA s c.2.2.2.1 c.2.2.2.2.1 H → LOC sA lsM nL c.2.1 → (∀ q ∈ locs, B0 ≤ q.base) → c.2.2.2.2.2.1 ≤ mc.1 → c.2.2.2.2.2.2 ≤ mc.2 →
  W p l en R s m args below meth co H locs c.2.2.2.2.2.1 c.2.2.2.2.2.2 Qf (F0 m c.1 lsM (c.2.2.1.map (toV sA)))
def CTX (own : String) (Ts : List Cond) (cc : ByteArray) : Prop := p.tables.exec = Jvm.exec ∧ co.code = cc ∧ co.maxLocals = nL ∧ s.vm.findClass own = some m.cls ∧ (∀ w ∈ Ts, w.before args s = true) ∧ (∀ w ∈ Tb, w ∈ Ts) ∧ mc.1 ≤ R.cells ∧ mc.2 ≤ R.slots
end ST
section RU
variable {D : va_G} {B0 : Nat} {sA : Nat → Nat} {p : Program} {l : Launch} {en : Env} {R : Room} {s : State} {m : MethodId} {args : Array Value} {below : List Frame} {meth : Method} {co : Code} {Qf : State → Prop} {nL : Nat} {mc : Cnt}
variable {own : String} {Ts : List Cond} {cc : ByteArray} {pc : Nat} {ls : List XV} {r : List XV} {V : Mem} {S : Shp} {g : Cnt}
theorem st_forget (dead : List Nat) {st : List XV} (h : WW D B0 sA p l en R s m args below meth co Qf nL mc (pc, lforget ls dead, st, V, S, g)) : WW D B0 sA p l en R s m args below meth co Qf nL mc (pc, ls, st, V, S, g) :=
  fun lsM H locs hC hP hL hq g1 g2 => h lsM H locs hC hP (hL.forget dead) hq g1 g2
theorem i32_s32 (x : Int) : (i32 x).toInt = s32 x := rfl
theorem i32_toInt (z : Int32) : i32 z.toInt = z := Int32.ofInt_toInt z
theorem i64_toInt (z : Int64) : i64 z.toInt = z := Int64.ofInt_toInt z
theorem i32_s (x : Int) : i32 (s32 x) = i32 x := Int32.ofInt_toInt _
theorem i64_s (x : Int) : i64 (s64 x) = i64 x := Int64.ofInt_toInt _
theorem i32_lt (x y : Int) : i32 x < i32 y ↔ s32 x < s32 y := Int32.lt_iff_toInt_lt
theorem i32_le (x y : Int) : i32 x ≤ i32 y ↔ ¬ s32 y < s32 x := Int32.le_iff_toInt_le.trans Int.not_lt.symm
theorem i32_eq (x y : Int) : i32 x = i32 y ↔ s32 x = s32 y := Int32.toInt_inj.symm
theorem i32_0 (x : Int) : i32 x = 0 ↔ s32 x = 0 := Int32.toInt_inj.symm
theorem i32_lt0 (x : Int) : i32 x < 0 ↔ s32 x < 0 := Int32.lt_iff_toInt_lt
theorem i32_le0 (x : Int) : i32 x ≤ 0 ↔ ¬ 0 < s32 x := Int32.le_iff_toInt_le.trans Int.not_lt.symm
theorem i32_ge0 (x : Int) : 0 ≤ i32 x ↔ ¬ s32 x < 0 := Int32.le_iff_toInt_le.trans Int.not_lt.symm
theorem i32_gt0 (x : Int) : 0 < i32 x ↔ 0 < s32 x := Int32.lt_iff_toInt_lt
theorem i64_0 (x : Int) : i64 x = 0 ↔ s64 x = 0 := Int64.toInt_inj.symm
theorem st_iconst (X : CTX p R s m args co nL mc own Ts cc) {n : Int} (hd : decode cc pc = .ok (.iconst n, 1)) (hk : WW D B0 sA p l en R s m args below meth co Qf nL mc (pc + 1, ls, (0, n) :: r, V, S, g)) : WW D B0 sA p l en R s m args below meth co Qf nL mc (pc, ls, r, V, S, g) := by
  intro lsM H locs hC hP hL hq g1 g2
  obtain ⟨hx, hb, -⟩ := X
  exact lv_iconst hx hb hd rfl (hk lsM H locs hC hP hL hq g1 g2)
theorem st_bipush (X : CTX p R s m args co nL mc own Ts cc) {n b : Int} (hv : (Int8.ofInt n).toInt32 = Int32.ofInt b) (hd : decode cc pc = .ok (.bipush n, 2)) (hk : WW D B0 sA p l en R s m args below meth co Qf nL mc (pc + 2, ls, (0, b) :: r, V, S, g)) : WW D B0 sA p l en R s m args below meth co Qf nL mc (pc, ls, r, V, S, g) := by
  intro lsM H locs hC hP hL hq g1 g2
  obtain ⟨hx, hb, -⟩ := X
  exact lv_bipush hx hb hd hv (hk lsM H locs hC hP hL hq g1 g2)
theorem st_sipush (X : CTX p R s m args co nL mc own Ts cc) {n b : Int} (hv : (Int16.ofInt n).toInt32 = Int32.ofInt b) (hd : decode cc pc = .ok (.sipush n, 3)) (hk : WW D B0 sA p l en R s m args below meth co Qf nL mc (pc + 3, ls, (0, b) :: r, V, S, g)) : WW D B0 sA p l en R s m args below meth co Qf nL mc (pc, ls, r, V, S, g) := by
  intro lsM H locs hC hP hL hq g1 g2
  obtain ⟨hx, hb, -⟩ := X
  exact lv_sipush hx hb hd hv (hk lsM H locs hC hP hL hq g1 g2)
theorem st_lconst (X : CTX p R s m args co nL mc own Ts cc) {n : Fin 2} (hd : decode cc pc = .ok (.lconst n, 1)) (hk : WW D B0 sA p l en R s m args below meth co Qf nL mc (pc + 1, ls, (1, (n.val : Int)) :: r, V, S, g)) : WW D B0 sA p l en R s m args below meth co Qf nL mc (pc, ls, r, V, S, g) := by
  intro lsM H locs hC hP hL hq g1 g2
  obtain ⟨hx, hb, -⟩ := X
  exact lv_lconst hx hb hd (by rcases n with ⟨_ | _ | n, hn⟩ <;> first | rfl | omega) (hk lsM H locs hC hP hL hq g1 g2)
theorem st_null (X : CTX p R s m args co nL mc own Ts cc) (hd : decode cc pc = .ok (.aconst_null, 1)) (hk : WW D B0 sA p l en R s m args below meth co Qf nL mc (pc + 1, ls, (2, -1) :: r, V, S, g)) : WW D B0 sA p l en R s m args below meth co Qf nL mc (pc, ls, r, V, S, g) := by
  intro lsM H locs hC hP hL hq g1 g2
  obtain ⟨hx, hb, -⟩ := X
  exact lv_null hx hb hd (hk lsM H locs hC hP hL hq g1 g2)
theorem st_ldc (X : CTX p R s m args co nL mc own Ts cc) {n : Nat} {b : Int} (hw : Cond.constant own n (Int32.ofInt b) ∈ Tb) (hd : decode cc pc = .ok (.ldc n, 2)) (hk : WW D B0 sA p l en R s m args below meth co Qf nL mc (pc + 2, ls, (0, b) :: r, V, S, g)) : WW D B0 sA p l en R s m args below meth co Qf nL mc (pc, ls, r, V, S, g) := by
  intro lsM H locs hC hP hL hq g1 g2
  obtain ⟨hx, hb, h9⟩ := X
  exact lv_ldc hx hb h9.2.1 (h9.2.2.1 _ (h9.2.2.2.1 _ hw)) hd (hk lsM H locs hC hP hL hq g1 g2)
theorem st_ldcw (X : CTX p R s m args co nL mc own Ts cc) {n : Nat} {b : Int} (hw : Cond.constant own n (Int32.ofInt b) ∈ Tb) (hd : decode cc pc = .ok (.ldc_w n, 3)) (hk : WW D B0 sA p l en R s m args below meth co Qf nL mc (pc + 3, ls, (0, b) :: r, V, S, g)) : WW D B0 sA p l en R s m args below meth co Qf nL mc (pc, ls, r, V, S, g) := by
  intro lsM H locs hC hP hL hq g1 g2
  obtain ⟨hx, hb, h9⟩ := X
  exact lv_ldcw hx hb h9.2.1 (h9.2.2.1 _ (h9.2.2.2.1 _ hw)) hd (hk lsM H locs hC hP hL hq g1 g2)
theorem st_ldc2w (X : CTX p R s m args co nL mc own Ts cc) {n : Nat} {b : Int} (hw : Cond.constantLong own n (Int64.ofInt b) ∈ Tb) (hd : decode cc pc = .ok (.ldc2_w n, 3)) (hk : WW D B0 sA p l en R s m args below meth co Qf nL mc (pc + 3, ls, (1, b) :: r, V, S, g)) : WW D B0 sA p l en R s m args below meth co Qf nL mc (pc, ls, r, V, S, g) := by
  intro lsM H locs hC hP hL hq g1 g2
  obtain ⟨hx, hb, h9⟩ := X
  exact lv_ldc2 hx hb h9.2.1 (h9.2.2.1 _ (h9.2.2.2.1 _ hw)) hd (hk lsM H locs hC hP hL hq g1 g2)
theorem st_ldcs (X : CTX p R s m args co nL mc own Ts cc) {n i : Nat} {tx : String} (hi : strTx[i]? = some (n, tx)) (hown : own = RX10) (hd : decode cc pc = .ok (.ldc n, 2)) (hk : WW D B0 sA p l en R s m args below meth co Qf nL mc (pc + 2, ls, (2, -4 - (i : Int)) :: r, V, S, g)) : WW D B0 sA p l en R s m args below meth co Qf nL mc (pc, ls, r, V, S, g) := by
  intro lsM H locs hC hP hL hq g1 g2
  obtain ⟨hx, hb, h9⟩ := X
  have h8 := hC.2.2.1 i _ hi
  subst hown
  have e : toV sA (2, -4 - (i : Int)) = .ref (sA (2 + i)) := by
    show va_rf (rfo sA (-4 - (i : Int))) = _
    unfold rfo toA
    rw [if_neg (by omega), if_neg (by omega)]
    show Value.ref _ = _
    congr 2
    omega
  have hk := hk lsM H locs hC hP hL hq g1 g2
  rw [List.map_cons, e] at hk
  exact va_ldcS hx hb h9.2.1 h8 hd hk
theorem st_iload (X : CTX p R s m args co nL mc own Ts cc) {n : Nat} {x : Int} (hl : lgt ls n = (0, x)) (hd : decode cc pc = .ok (.iload n, 2)) (hk : WW D B0 sA p l en R s m args below meth co Qf nL mc (pc + 2, ls, (0, x) :: r, V, S, g)) : WW D B0 sA p l en R s m args below meth co Qf nL mc (pc, ls, r, V, S, g) := by
  intro lsM H locs hC hP hL hq g1 g2
  obtain ⟨hx, hb, -⟩ := X
  exact lv_iload hx hb hd (hL.get hl (by decide)) (hk lsM H locs hC hP hL hq g1 g2)
theorem st_iload_n (X : CTX p R s m args co nL mc own Ts cc) {n : Fin 4} {x : Int} (hl : lgt ls n.val = (0, x)) (hd : decode cc pc = .ok (.iload_n n, 1)) (hk : WW D B0 sA p l en R s m args below meth co Qf nL mc (pc + 1, ls, (0, x) :: r, V, S, g)) : WW D B0 sA p l en R s m args below meth co Qf nL mc (pc, ls, r, V, S, g) := by
  intro lsM H locs hC hP hL hq g1 g2
  obtain ⟨hx, hb, -⟩ := X
  exact lv_iload_n hx hb hd rfl (hL.get hl (by decide)) (hk lsM H locs hC hP hL hq g1 g2)
theorem st_lload (X : CTX p R s m args co nL mc own Ts cc) {n : Nat} {x : Int} (hl : lgt ls n = (1, x)) (hd : decode cc pc = .ok (.lload n, 2)) (hk : WW D B0 sA p l en R s m args below meth co Qf nL mc (pc + 2, ls, (1, x) :: r, V, S, g)) : WW D B0 sA p l en R s m args below meth co Qf nL mc (pc, ls, r, V, S, g) := by
  intro lsM H locs hC hP hL hq g1 g2
  obtain ⟨hx, hb, -⟩ := X
  exact lv_lload hx hb hd (hL.get hl (by decide)) (hk lsM H locs hC hP hL hq g1 g2)
theorem st_lload_n (X : CTX p R s m args co nL mc own Ts cc) {n : Fin 4} {x : Int} (hl : lgt ls n.val = (1, x)) (hd : decode cc pc = .ok (.lload_n n, 1)) (hk : WW D B0 sA p l en R s m args below meth co Qf nL mc (pc + 1, ls, (1, x) :: r, V, S, g)) : WW D B0 sA p l en R s m args below meth co Qf nL mc (pc, ls, r, V, S, g) := by
  intro lsM H locs hC hP hL hq g1 g2
  obtain ⟨hx, hb, -⟩ := X
  exact lv_lload_n hx hb hd rfl (hL.get hl (by decide)) (hk lsM H locs hC hP hL hq g1 g2)
theorem st_aload (X : CTX p R s m args co nL mc own Ts cc) {n : Nat} {x : Int} (hl : lgt ls n = (2, x)) (hd : decode cc pc = .ok (.aload n, 2)) (hk : WW D B0 sA p l en R s m args below meth co Qf nL mc (pc + 2, ls, (2, x) :: r, V, S, g)) : WW D B0 sA p l en R s m args below meth co Qf nL mc (pc, ls, r, V, S, g) := by
  intro lsM H locs hC hP hL hq g1 g2
  obtain ⟨hx, hb, -⟩ := X
  have hg := hL.get hl (by decide)
  have hk := hk lsM H locs hC hP hL hq g1 g2
  rw [List.map_cons] at hk
  by_cases hx1 : x = -1
  · have e : toV sA (2, x) = .null := by show va_rf (rfo sA x) = _; unfold rfo; rw [if_pos hx1]; rfl
    have e2 : toF sA 2 x = .null := e
    rw [e2] at hg
    rw [e] at hk
    exact lv_aloadN hx hb hd hg hk
  · have e : toV sA (2, x) = .ref (toA sA x) := by show va_rf (rfo sA x) = _; unfold rfo; rw [if_neg hx1]; rfl
    have e2 : toF sA 2 x = .ref (toA sA x) := e
    rw [e2] at hg
    rw [e] at hk
    exact lv_aload hx hb hd hg hk
theorem st_aload_n (X : CTX p R s m args co nL mc own Ts cc) {n : Fin 4} {x : Int} (hl : lgt ls n.val = (2, x)) (hd : decode cc pc = .ok (.aload_n n, 1)) (hk : WW D B0 sA p l en R s m args below meth co Qf nL mc (pc + 1, ls, (2, x) :: r, V, S, g)) : WW D B0 sA p l en R s m args below meth co Qf nL mc (pc, ls, r, V, S, g) := by
  intro lsM H locs hC hP hL hq g1 g2
  obtain ⟨hx, hb, -⟩ := X
  have hg := hL.get hl (by decide)
  have hk := hk lsM H locs hC hP hL hq g1 g2
  rw [List.map_cons] at hk
  by_cases hx1 : x = -1
  · have e : toV sA (2, x) = .null := by show va_rf (rfo sA x) = _; unfold rfo; rw [if_pos hx1]; rfl
    have e2 : toF sA 2 x = .null := e
    rw [e2] at hg
    rw [e] at hk
    exact lv_aload_nN hx hb hd rfl hg hk
  · have e : toV sA (2, x) = .ref (toA sA x) := by show va_rf (rfo sA x) = _; unfold rfo; rw [if_neg hx1]; rfl
    have e2 : toF sA 2 x = .ref (toA sA x) := e
    rw [e2] at hg
    rw [e] at hk
    exact lv_aload_n hx hb hd rfl hg hk
theorem st_istore (X : CTX p R s m args co nL mc own Ts cc) {n : Nat} {x : Int} (hn : n < nL) (hd : decode cc pc = .ok (.istore n, 2)) (hk : WW D B0 sA p l en R s m args below meth co Qf nL mc (pc + 2, lput ls n (0, x), r, V, S, g)) : WW D B0 sA p l en R s m args below meth co Qf nL mc (pc, ls, (0, x) :: r, V, S, g) := by
  intro lsM H locs hC hP hL hq g1 g2
  obtain ⟨hx, hb, -⟩ := X
  obtain ⟨L, hl, hm⟩ := hL
  exact lv_istore hx hb hd hl hn rfl (fun ls1 hl1 => hk ls1 H locs hC hP ⟨_, hl1, put_mem hm n (0, x)⟩ hq g1 g2)
theorem st_istore_n (X : CTX p R s m args co nL mc own Ts cc) {n : Fin 4} {x : Int} (hn : n.val < nL) (hd : decode cc pc = .ok (.istore_n n, 1)) (hk : WW D B0 sA p l en R s m args below meth co Qf nL mc (pc + 1, lput ls n.val (0, x), r, V, S, g)) : WW D B0 sA p l en R s m args below meth co Qf nL mc (pc, ls, (0, x) :: r, V, S, g) := by
  intro lsM H locs hC hP hL hq g1 g2
  obtain ⟨hx, hb, -⟩ := X
  obtain ⟨L, hl, hm⟩ := hL
  exact lv_istore_n hx hb hd rfl hl hn rfl (fun ls1 hl1 => hk ls1 H locs hC hP ⟨_, hl1, put_mem hm n.val (0, x)⟩ hq g1 g2)
theorem st_lstore (X : CTX p R s m args co nL mc own Ts cc) {n : Nat} {x : Int} (hn : n + 1 < nL) (hd : decode cc pc = .ok (.lstore n, 2)) (hk : WW D B0 sA p l en R s m args below meth co Qf nL mc (pc + 2, (lput ls n (1, x)).set (n + 1) (9, 0), r, V, S, g)) : WW D B0 sA p l en R s m args below meth co Qf nL mc (pc, ls, (1, x) :: r, V, S, g) := by
  intro lsM H locs hC hP hL hq g1 g2
  obtain ⟨hx, hb, -⟩ := X
  obtain ⟨L, hl, hm⟩ := hL
  exact lv_lstore hx hb hd hl hn rfl (fun ls1 hl1 => hk ls1 H locs hC hP ⟨_, hl1, put_mem2 hm n (1, x)⟩ hq g1 g2)
theorem st_lstore_n (X : CTX p R s m args co nL mc own Ts cc) {n : Fin 4} {x : Int} (hn : n.val + 1 < nL) (hd : decode cc pc = .ok (.lstore_n n, 1)) (hk : WW D B0 sA p l en R s m args below meth co Qf nL mc (pc + 1, (lput ls n.val (1, x)).set (n.val + 1) (9, 0), r, V, S, g)) : WW D B0 sA p l en R s m args below meth co Qf nL mc (pc, ls, (1, x) :: r, V, S, g) := by
  intro lsM H locs hC hP hL hq g1 g2
  obtain ⟨hx, hb, -⟩ := X
  obtain ⟨L, hl, hm⟩ := hL
  exact lv_lstore_n hx hb hd rfl hl hn rfl (fun ls1 hl1 => hk ls1 H locs hC hP ⟨_, hl1, put_mem2 hm n.val (1, x)⟩ hq g1 g2)
theorem st_astore (X : CTX p R s m args co nL mc own Ts cc) {n : Nat} {x : Int} (hn : n < nL) (hd : decode cc pc = .ok (.astore n, 2)) (hk : WW D B0 sA p l en R s m args below meth co Qf nL mc (pc + 2, lput ls n (2, x), r, V, S, g)) : WW D B0 sA p l en R s m args below meth co Qf nL mc (pc, ls, (2, x) :: r, V, S, g) := by
  intro lsM H locs hC hP hL hq g1 g2
  obtain ⟨hx, hb, -⟩ := X
  obtain ⟨L, hl, hm⟩ := hL
  have hp := put_mem hm n (2, x)
  show W p l en R s m args below meth co H locs g.1 g.2 Qf (F0 m pc lsM (toV sA (2, x) :: r.map (toV sA)))
  by_cases hx1 : x = -1
  · have e : toV sA (2, x) = .null := by show va_rf (rfo sA x) = _; unfold rfo; rw [if_pos hx1]; rfl
    rw [e] at hp ⊢
    exact lv_astoreN hx hb hd hl hn rfl (fun ls1 hl1 => hk ls1 H locs hC hP ⟨_, hl1, hp⟩ hq g1 g2)
  · have e : toV sA (2, x) = .ref (toA sA x) := by show va_rf (rfo sA x) = _; unfold rfo; rw [if_neg hx1]; rfl
    rw [e] at hp ⊢
    exact lv_astore hx hb hd hl hn rfl (fun ls1 hl1 => hk ls1 H locs hC hP ⟨_, hl1, hp⟩ hq g1 g2)
theorem st_astore_n (X : CTX p R s m args co nL mc own Ts cc) {n : Fin 4} {x : Int} (hn : n.val < nL) (hd : decode cc pc = .ok (.astore_n n, 1)) (hk : WW D B0 sA p l en R s m args below meth co Qf nL mc (pc + 1, lput ls n.val (2, x), r, V, S, g)) : WW D B0 sA p l en R s m args below meth co Qf nL mc (pc, ls, (2, x) :: r, V, S, g) := by
  intro lsM H locs hC hP hL hq g1 g2
  obtain ⟨hx, hb, -⟩ := X
  obtain ⟨L, hl, hm⟩ := hL
  have hp := put_mem hm n.val (2, x)
  show W p l en R s m args below meth co H locs g.1 g.2 Qf (F0 m pc lsM (toV sA (2, x) :: r.map (toV sA)))
  by_cases hx1 : x = -1
  · have e : toV sA (2, x) = .null := by show va_rf (rfo sA x) = _; unfold rfo; rw [if_pos hx1]; rfl
    rw [e] at hp ⊢
    exact lv_astore_nN hx hb hd rfl hl hn rfl (fun ls1 hl1 => hk ls1 H locs hC hP ⟨_, hl1, hp⟩ hq g1 g2)
  · have e : toV sA (2, x) = .ref (toA sA x) := by show va_rf (rfo sA x) = _; unfold rfo; rw [if_neg hx1]; rfl
    rw [e] at hp ⊢
    exact lv_astore_n hx hb hd rfl hl hn rfl (fun ls1 hl1 => hk ls1 H locs hC hP ⟨_, hl1, hp⟩ hq g1 g2)
theorem st_iinc (X : CTX p R s m args co nL mc own Ts cc) {n : Nat} {k x : Int} (hn : n < nL) (hl : lgt ls n = (0, x)) (hd : decode cc pc = .ok (.iinc n k, 3)) (hk : WW D B0 sA p l en R s m args below meth co Qf nL mc (pc + 3, lput ls n (0, x + k), r, V, S, g)) : WW D B0 sA p l en R s m args below meth co Qf nL mc (pc, ls, r, V, S, g) := by
  intro lsM H locs hC hP hL hq g1 g2
  obtain ⟨hx, hb, -⟩ := X
  obtain ⟨L, hl0, hm⟩ := hL
  have h1 : ls[n]? = some (0, x) := by
    unfold lgt at hl
    rw [List.getD_eq_getElem?_getD] at hl
    cases h2 : ls[n]? with
    | none => rw [h2] at hl; cases hl
    | some v => rw [h2] at hl; exact congrArg some hl
  obtain ⟨j, hj⟩ := List.getElem?_of_mem (hm n _ h1 (Nat.zero_le _))
  exact lv_iinc hx hb hd hl0 hj (Int32.ofInt_add x k).symm hn rfl (fun ls1 hl1 => hk ls1 H locs hC hP ⟨_, hl1, put_mem hm n (0, x + k)⟩ hq g1 g2)
theorem st_iadd (X : CTX p R s m args co nL mc own Ts cc) {x y : Int} (hd : decode cc pc = .ok (.iadd, 1)) (hk : WW D B0 sA p l en R s m args below meth co Qf nL mc (pc + 1, ls, (0, x + y) :: r, V, S, g)) : WW D B0 sA p l en R s m args below meth co Qf nL mc (pc, ls, (0, y) :: (0, x) :: r, V, S, g) := by
  intro lsM H locs hC hP hL hq g1 g2
  obtain ⟨hx, hb, -⟩ := X
  have hk := hk lsM H locs hC hP hL hq g1 g2
  rw [List.map_cons] at hk
  have e : toV sA (0, x + y) = .int (i32 x + i32 y) := congrArg Value.int (Int32.ofInt_add x y)
  rw [e] at hk
  exact lv_iadd hx hb hd hk
theorem st_isub (X : CTX p R s m args co nL mc own Ts cc) {x y : Int} (hd : decode cc pc = .ok (.isub, 1)) (hk : WW D B0 sA p l en R s m args below meth co Qf nL mc (pc + 1, ls, (0, x - y) :: r, V, S, g)) : WW D B0 sA p l en R s m args below meth co Qf nL mc (pc, ls, (0, y) :: (0, x) :: r, V, S, g) := by
  intro lsM H locs hC hP hL hq g1 g2
  obtain ⟨hx, hb, -⟩ := X
  have hk := hk lsM H locs hC hP hL hq g1 g2
  rw [List.map_cons] at hk
  have e : toV sA (0, x - y) = .int (i32 x - i32 y) := congrArg Value.int (Int32.ofInt_sub x y)
  rw [e] at hk
  exact lv_isub hx hb hd hk
theorem st_imul (X : CTX p R s m args co nL mc own Ts cc) {x y : Int} (hd : decode cc pc = .ok (.imul, 1)) (hk : WW D B0 sA p l en R s m args below meth co Qf nL mc (pc + 1, ls, (0, x * y) :: r, V, S, g)) : WW D B0 sA p l en R s m args below meth co Qf nL mc (pc, ls, (0, y) :: (0, x) :: r, V, S, g) := by
  intro lsM H locs hC hP hL hq g1 g2
  obtain ⟨hx, hb, -⟩ := X
  have hk := hk lsM H locs hC hP hL hq g1 g2
  rw [List.map_cons] at hk
  have e : toV sA (0, x * y) = .int (i32 x * i32 y) := congrArg Value.int (Int32.ofInt_mul x y)
  rw [e] at hk
  exact lv_imul hx hb hd hk
theorem st_ladd (X : CTX p R s m args co nL mc own Ts cc) {x y : Int} (hd : decode cc pc = .ok (.ladd, 1)) (hk : WW D B0 sA p l en R s m args below meth co Qf nL mc (pc + 1, ls, (1, x + y) :: r, V, S, g)) : WW D B0 sA p l en R s m args below meth co Qf nL mc (pc, ls, (1, y) :: (1, x) :: r, V, S, g) := by
  intro lsM H locs hC hP hL hq g1 g2
  obtain ⟨hx, hb, -⟩ := X
  have hk := hk lsM H locs hC hP hL hq g1 g2
  rw [List.map_cons] at hk
  have e : toV sA (1, x + y) = .long (i64 x + i64 y) := congrArg Value.long (Int64.ofInt_add x y)
  rw [e] at hk
  exact lv_ladd hx hb hd hk
theorem st_lsub (X : CTX p R s m args co nL mc own Ts cc) {x y : Int} (hd : decode cc pc = .ok (.lsub, 1)) (hk : WW D B0 sA p l en R s m args below meth co Qf nL mc (pc + 1, ls, (1, x - y) :: r, V, S, g)) : WW D B0 sA p l en R s m args below meth co Qf nL mc (pc, ls, (1, y) :: (1, x) :: r, V, S, g) := by
  intro lsM H locs hC hP hL hq g1 g2
  obtain ⟨hx, hb, -⟩ := X
  have hk := hk lsM H locs hC hP hL hq g1 g2
  rw [List.map_cons] at hk
  have e : toV sA (1, x - y) = .long (i64 x - i64 y) := congrArg Value.long (Int64.ofInt_sub x y)
  rw [e] at hk
  exact lv_lsub hx hb hd hk
theorem st_lmul (X : CTX p R s m args co nL mc own Ts cc) {x y : Int} (hd : decode cc pc = .ok (.lmul, 1)) (hk : WW D B0 sA p l en R s m args below meth co Qf nL mc (pc + 1, ls, (1, x * y) :: r, V, S, g)) : WW D B0 sA p l en R s m args below meth co Qf nL mc (pc, ls, (1, y) :: (1, x) :: r, V, S, g) := by
  intro lsM H locs hC hP hL hq g1 g2
  obtain ⟨hx, hb, -⟩ := X
  have hk := hk lsM H locs hC hP hL hq g1 g2
  rw [List.map_cons] at hk
  have e : toV sA (1, x * y) = .long (i64 x * i64 y) := congrArg Value.long (Int64.ofInt_mul x y)
  rw [e] at hk
  exact lv_lmul hx hb hd hk
theorem st_iand (X : CTX p R s m args co nL mc own Ts cc) {x y : Int} (hd : decode cc pc = .ok (.iand, 1)) (hk : WW D B0 sA p l en R s m args below meth co Qf nL mc (pc + 1, ls, (0, iandI x y) :: r, V, S, g)) : WW D B0 sA p l en R s m args below meth co Qf nL mc (pc, ls, (0, y) :: (0, x) :: r, V, S, g) := by
  intro lsM H locs hC hP hL hq g1 g2
  obtain ⟨hx, hb, -⟩ := X
  have hk := hk lsM H locs hC hP hL hq g1 g2
  rw [List.map_cons] at hk
  have e : toV sA (0, iandI x y) = .int (i32 x &&& i32 y) := congrArg Value.int (i32_toInt _)
  rw [e] at hk
  exact lv_iand hx hb hd hk
theorem st_ior (X : CTX p R s m args co nL mc own Ts cc) {x y : Int} (hd : decode cc pc = .ok (.ior, 1)) (hk : WW D B0 sA p l en R s m args below meth co Qf nL mc (pc + 1, ls, (0, iorI x y) :: r, V, S, g)) : WW D B0 sA p l en R s m args below meth co Qf nL mc (pc, ls, (0, y) :: (0, x) :: r, V, S, g) := by
  intro lsM H locs hC hP hL hq g1 g2
  obtain ⟨hx, hb, -⟩ := X
  have hk := hk lsM H locs hC hP hL hq g1 g2
  rw [List.map_cons] at hk
  have e : toV sA (0, iorI x y) = .int (i32 x ||| i32 y) := congrArg Value.int (i32_toInt _)
  rw [e] at hk
  exact lv_ior hx hb hd hk
theorem st_ixor (X : CTX p R s m args co nL mc own Ts cc) {x y : Int} (hd : decode cc pc = .ok (.ixor, 1)) (hk : WW D B0 sA p l en R s m args below meth co Qf nL mc (pc + 1, ls, (0, ixorI x y) :: r, V, S, g)) : WW D B0 sA p l en R s m args below meth co Qf nL mc (pc, ls, (0, y) :: (0, x) :: r, V, S, g) := by
  intro lsM H locs hC hP hL hq g1 g2
  obtain ⟨hx, hb, -⟩ := X
  have hk := hk lsM H locs hC hP hL hq g1 g2
  rw [List.map_cons] at hk
  have e : toV sA (0, ixorI x y) = .int (i32 x ^^^ i32 y) := congrArg Value.int (i32_toInt _)
  rw [e] at hk
  exact lv_ixor hx hb hd hk
theorem st_land (X : CTX p R s m args co nL mc own Ts cc) {x y : Int} (hd : decode cc pc = .ok (.land, 1)) (hk : WW D B0 sA p l en R s m args below meth co Qf nL mc (pc + 1, ls, (1, landI x y) :: r, V, S, g)) : WW D B0 sA p l en R s m args below meth co Qf nL mc (pc, ls, (1, y) :: (1, x) :: r, V, S, g) := by
  intro lsM H locs hC hP hL hq g1 g2
  obtain ⟨hx, hb, -⟩ := X
  have hk := hk lsM H locs hC hP hL hq g1 g2
  rw [List.map_cons] at hk
  have e : toV sA (1, landI x y) = .long (i64 x &&& i64 y) := congrArg Value.long (i64_toInt _)
  rw [e] at hk
  exact lv_land hx hb hd hk
theorem st_lor (X : CTX p R s m args co nL mc own Ts cc) {x y : Int} (hd : decode cc pc = .ok (.lor, 1)) (hk : WW D B0 sA p l en R s m args below meth co Qf nL mc (pc + 1, ls, (1, lorI x y) :: r, V, S, g)) : WW D B0 sA p l en R s m args below meth co Qf nL mc (pc, ls, (1, y) :: (1, x) :: r, V, S, g) := by
  intro lsM H locs hC hP hL hq g1 g2
  obtain ⟨hx, hb, -⟩ := X
  have hk := hk lsM H locs hC hP hL hq g1 g2
  rw [List.map_cons] at hk
  have e : toV sA (1, lorI x y) = .long (i64 x ||| i64 y) := congrArg Value.long (i64_toInt _)
  rw [e] at hk
  exact lv_lor hx hb hd hk
theorem st_lxor (X : CTX p R s m args co nL mc own Ts cc) {x y : Int} (hd : decode cc pc = .ok (.lxor, 1)) (hk : WW D B0 sA p l en R s m args below meth co Qf nL mc (pc + 1, ls, (1, lxorI x y) :: r, V, S, g)) : WW D B0 sA p l en R s m args below meth co Qf nL mc (pc, ls, (1, y) :: (1, x) :: r, V, S, g) := by
  intro lsM H locs hC hP hL hq g1 g2
  obtain ⟨hx, hb, -⟩ := X
  have hk := hk lsM H locs hC hP hL hq g1 g2
  rw [List.map_cons] at hk
  have e : toV sA (1, lxorI x y) = .long (i64 x ^^^ i64 y) := congrArg Value.long (i64_toInt _)
  rw [e] at hk
  exact lv_lxor hx hb hd hk
theorem st_ishl (X : CTX p R s m args co nL mc own Ts cc) {x y : Int} (hd : decode cc pc = .ok (.ishl, 1)) (hk : WW D B0 sA p l en R s m args below meth co Qf nL mc (pc + 1, ls, (0, ishlI x y) :: r, V, S, g)) : WW D B0 sA p l en R s m args below meth co Qf nL mc (pc, ls, (0, y) :: (0, x) :: r, V, S, g) := by
  intro lsM H locs hC hP hL hq g1 g2
  obtain ⟨hx, hb, -⟩ := X
  have hk := hk lsM H locs hC hP hL hq g1 g2
  rw [List.map_cons] at hk
  have e : toV sA (0, ishlI x y) = .int (i32 x <<< (i32 y &&& 31)) := congrArg Value.int (i32_toInt _)
  rw [e] at hk
  exact lv_ishl hx hb hd hk
theorem st_ishr (X : CTX p R s m args co nL mc own Ts cc) {x y : Int} (hd : decode cc pc = .ok (.ishr, 1)) (hk : WW D B0 sA p l en R s m args below meth co Qf nL mc (pc + 1, ls, (0, ishrI x y) :: r, V, S, g)) : WW D B0 sA p l en R s m args below meth co Qf nL mc (pc, ls, (0, y) :: (0, x) :: r, V, S, g) := by
  intro lsM H locs hC hP hL hq g1 g2
  obtain ⟨hx, hb, -⟩ := X
  have hk := hk lsM H locs hC hP hL hq g1 g2
  rw [List.map_cons] at hk
  have e : toV sA (0, ishrI x y) = .int (i32 x >>> (i32 y &&& 31)) := congrArg Value.int (i32_toInt _)
  rw [e] at hk
  exact lv_ishr hx hb hd hk
theorem st_iushr (X : CTX p R s m args co nL mc own Ts cc) {x y : Int} (hd : decode cc pc = .ok (.iushr, 1)) (hk : WW D B0 sA p l en R s m args below meth co Qf nL mc (pc + 1, ls, (0, iushrI x y) :: r, V, S, g)) : WW D B0 sA p l en R s m args below meth co Qf nL mc (pc, ls, (0, y) :: (0, x) :: r, V, S, g) := by
  intro lsM H locs hC hP hL hq g1 g2
  obtain ⟨hx, hb, -⟩ := X
  have hk := hk lsM H locs hC hP hL hq g1 g2
  rw [List.map_cons] at hk
  have e : toV sA (0, iushrI x y) = .int ((i32 x).toUInt32 >>> ((i32 y).toUInt32 &&& Int32.toUInt32 31)).toInt32 := congrArg Value.int (i32_toInt _)
  rw [e] at hk
  exact lv_iushr hx hb hd rfl hk
theorem st_lshl (X : CTX p R s m args co nL mc own Ts cc) {x y : Int} (hd : decode cc pc = .ok (.lshl, 1)) (hk : WW D B0 sA p l en R s m args below meth co Qf nL mc (pc + 1, ls, (1, lshlI x y) :: r, V, S, g)) : WW D B0 sA p l en R s m args below meth co Qf nL mc (pc, ls, (0, y) :: (1, x) :: r, V, S, g) := by
  intro lsM H locs hC hP hL hq g1 g2
  obtain ⟨hx, hb, -⟩ := X
  have hk := hk lsM H locs hC hP hL hq g1 g2
  rw [List.map_cons] at hk
  have e : toV sA (1, lshlI x y) = .long (i64 x <<< ((i32 y).toInt64 &&& 63)) := congrArg Value.long (i64_toInt _)
  rw [e] at hk
  exact lv_lshl hx hb hd rfl hk
theorem st_lshr (X : CTX p R s m args co nL mc own Ts cc) {x y : Int} (hd : decode cc pc = .ok (.lshr, 1)) (hk : WW D B0 sA p l en R s m args below meth co Qf nL mc (pc + 1, ls, (1, lshrI x y) :: r, V, S, g)) : WW D B0 sA p l en R s m args below meth co Qf nL mc (pc, ls, (0, y) :: (1, x) :: r, V, S, g) := by
  intro lsM H locs hC hP hL hq g1 g2
  obtain ⟨hx, hb, -⟩ := X
  have hk := hk lsM H locs hC hP hL hq g1 g2
  rw [List.map_cons] at hk
  have e : toV sA (1, lshrI x y) = .long (i64 x >>> ((i32 y).toInt64 &&& 63)) := congrArg Value.long (i64_toInt _)
  rw [e] at hk
  exact lv_lshr hx hb hd rfl hk
theorem st_lushr (X : CTX p R s m args co nL mc own Ts cc) {x y : Int} (hd : decode cc pc = .ok (.lushr, 1)) (hk : WW D B0 sA p l en R s m args below meth co Qf nL mc (pc + 1, ls, (1, lushrI x y) :: r, V, S, g)) : WW D B0 sA p l en R s m args below meth co Qf nL mc (pc, ls, (0, y) :: (1, x) :: r, V, S, g) := by
  intro lsM H locs hC hP hL hq g1 g2
  obtain ⟨hx, hb, -⟩ := X
  have hk := hk lsM H locs hC hP hL hq g1 g2
  rw [List.map_cons] at hk
  have e : toV sA (1, lushrI x y) = .long ((i64 x).toUInt64 >>> ((i32 y).toInt64.toUInt64 &&& Int64.toUInt64 63)).toInt64 := congrArg Value.long (i64_toInt _)
  rw [e] at hk
  exact lv_lushr hx hb hd rfl hk
theorem div32 (x y : Int) : i32 ((s32 x).tdiv (s32 y)) = i32 x / i32 y := by
  rw [← i32_toInt (i32 x / i32 y), Int32.toInt_div]
  show i32 _ = i32 _
  rw [i32_eq]
  show (Int32.ofInt _).toInt = (Int32.ofInt _).toInt
  rw [Int32.toInt_ofInt, Int32.toInt_ofInt]
  exact (Int.bmod_bmod ..).symm
theorem div64 (x y : Int) : i64 ((s64 x).tdiv (s64 y)) = i64 x / i64 y := by
  rw [← i64_toInt (i64 x / i64 y), Int64.toInt_div]
  show Int64.ofInt _ = Int64.ofInt _
  rw [← Int64.toInt_inj, Int64.toInt_ofInt, Int64.toInt_ofInt]
  exact (Int.bmod_bmod ..).symm
theorem rem32 (x y : Int) : i32 ((s32 x).tmod (s32 y)) = i32 x - i32 x / i32 y * i32 y := by
  have h : (s32 x).tmod (s32 y) = s32 x - (s32 x).tdiv (s32 y) * s32 y := by
    rw [Int.mul_comm]; have := Int.mul_tdiv_add_tmod (s32 x) (s32 y); omega
  rw [h, ← div32 x y]
  show Int32.ofInt _ = _
  rw [Int32.ofInt_sub, Int32.ofInt_mul]
  show i32 (s32 x) - _ * i32 (s32 y) = _
  rw [i32_s, i32_s]
  rfl
theorem rem64 (x y : Int) : i64 ((s64 x).tmod (s64 y)) = i64 x - i64 x / i64 y * i64 y := by
  have h : (s64 x).tmod (s64 y) = s64 x - (s64 x).tdiv (s64 y) * s64 y := by
    rw [Int.mul_comm]; have := Int.mul_tdiv_add_tmod (s64 x) (s64 y); omega
  rw [h, ← div64 x y]
  show Int64.ofInt _ = _
  rw [Int64.ofInt_sub, Int64.ofInt_mul]
  show i64 (s64 x) - _ * i64 (s64 y) = _
  rw [i64_s, i64_s]
  rfl
theorem st_idiv (X : CTX p R s m args co nL mc own Ts cc) {x y : Int} (hy : s32 y ≠ 0) (hd : decode cc pc = .ok (.idiv, 1)) (hk : WW D B0 sA p l en R s m args below meth co Qf nL mc (pc + 1, ls, (0, (s32 x).tdiv (s32 y)) :: r, V, S, g)) : WW D B0 sA p l en R s m args below meth co Qf nL mc (pc, ls, (0, y) :: (0, x) :: r, V, S, g) := by
  intro lsM H locs hC hP hL hq g1 g2
  obtain ⟨hx, hb, -⟩ := X
  have hk := hk lsM H locs hC hP hL hq g1 g2
  rw [List.map_cons] at hk
  have e : toV sA (0, (s32 x).tdiv (s32 y)) = .int (i32 x / i32 y) := congrArg Value.int (div32 x y)
  rw [e] at hk
  exact lv_idiv hx hb hd (fun z => hy ((i32_0 y).mp z)) hk
theorem st_irem (X : CTX p R s m args co nL mc own Ts cc) {x y : Int} (hy : s32 y ≠ 0) (hd : decode cc pc = .ok (.irem, 1)) (hk : WW D B0 sA p l en R s m args below meth co Qf nL mc (pc + 1, ls, (0, (s32 x).tmod (s32 y)) :: r, V, S, g)) : WW D B0 sA p l en R s m args below meth co Qf nL mc (pc, ls, (0, y) :: (0, x) :: r, V, S, g) := by
  intro lsM H locs hC hP hL hq g1 g2
  obtain ⟨hx, hb, -⟩ := X
  have hk := hk lsM H locs hC hP hL hq g1 g2
  rw [List.map_cons] at hk
  have e : toV sA (0, (s32 x).tmod (s32 y)) = .int (i32 x - i32 x / i32 y * i32 y) := congrArg Value.int (rem32 x y)
  rw [e] at hk
  exact lv_irem hx hb hd (fun z => hy ((i32_0 y).mp z)) hk
theorem st_ldiv (X : CTX p R s m args co nL mc own Ts cc) {x y : Int} (hy : s64 y ≠ 0) (hd : decode cc pc = .ok (.ldiv, 1)) (hk : WW D B0 sA p l en R s m args below meth co Qf nL mc (pc + 1, ls, (1, (s64 x).tdiv (s64 y)) :: r, V, S, g)) : WW D B0 sA p l en R s m args below meth co Qf nL mc (pc, ls, (1, y) :: (1, x) :: r, V, S, g) := by
  intro lsM H locs hC hP hL hq g1 g2
  obtain ⟨hx, hb, -⟩ := X
  have hk := hk lsM H locs hC hP hL hq g1 g2
  rw [List.map_cons] at hk
  have e : toV sA (1, (s64 x).tdiv (s64 y)) = .long (i64 x / i64 y) := congrArg Value.long (div64 x y)
  rw [e] at hk
  exact lv_ldiv hx hb hd (fun z => hy ((i64_0 y).mp z)) hk
theorem st_lrem (X : CTX p R s m args co nL mc own Ts cc) {x y : Int} (hy : s64 y ≠ 0) (hd : decode cc pc = .ok (.lrem, 1)) (hk : WW D B0 sA p l en R s m args below meth co Qf nL mc (pc + 1, ls, (1, (s64 x).tmod (s64 y)) :: r, V, S, g)) : WW D B0 sA p l en R s m args below meth co Qf nL mc (pc, ls, (1, y) :: (1, x) :: r, V, S, g) := by
  intro lsM H locs hC hP hL hq g1 g2
  obtain ⟨hx, hb, -⟩ := X
  have hk := hk lsM H locs hC hP hL hq g1 g2
  rw [List.map_cons] at hk
  have e : toV sA (1, (s64 x).tmod (s64 y)) = .long (i64 x - i64 x / i64 y * i64 y) := congrArg Value.long (rem64 x y)
  rw [e] at hk
  exact lv_lrem hx hb hd (fun z => hy ((i64_0 y).mp z)) hk
theorem st_ineg (X : CTX p R s m args co nL mc own Ts cc) {x : Int} (hd : decode cc pc = .ok (.ineg, 1)) (hk : WW D B0 sA p l en R s m args below meth co Qf nL mc (pc + 1, ls, (0, -x) :: r, V, S, g)) : WW D B0 sA p l en R s m args below meth co Qf nL mc (pc, ls, (0, x) :: r, V, S, g) := by
  intro lsM H locs hC hP hL hq g1 g2
  obtain ⟨hx, hb, -⟩ := X
  have hk := hk lsM H locs hC hP hL hq g1 g2
  rw [List.map_cons] at hk
  have e : toV sA (0, -x) = .int (-(i32 x)) := congrArg Value.int (Int32.ofInt_neg x)
  rw [e] at hk
  exact lv_ineg hx hb hd hk
theorem st_i2l (X : CTX p R s m args co nL mc own Ts cc) {x : Int} (hd : decode cc pc = .ok (.i2l, 1)) (hk : WW D B0 sA p l en R s m args below meth co Qf nL mc (pc + 1, ls, (1, s32 x) :: r, V, S, g)) : WW D B0 sA p l en R s m args below meth co Qf nL mc (pc, ls, (0, x) :: r, V, S, g) := by
  intro lsM H locs hC hP hL hq g1 g2
  obtain ⟨hx, hb, -⟩ := X
  have hk := hk lsM H locs hC hP hL hq g1 g2
  rw [List.map_cons] at hk
  have e : toV sA (1, s32 x) = .long (i32 x).toInt64 := congrArg Value.long (Int64.ofInt_int32ToInt _)
  rw [e] at hk
  exact lv_i2l hx hb hd rfl hk
theorem st_l2i (X : CTX p R s m args co nL mc own Ts cc) {x : Int} (hd : decode cc pc = .ok (.l2i, 1)) (hk : WW D B0 sA p l en R s m args below meth co Qf nL mc (pc + 1, ls, (0, x) :: r, V, S, g)) : WW D B0 sA p l en R s m args below meth co Qf nL mc (pc, ls, (1, x) :: r, V, S, g) := by
  intro lsM H locs hC hP hL hq g1 g2
  obtain ⟨hx, hb, -⟩ := X
  have hk := hk lsM H locs hC hP hL hq g1 g2
  rw [List.map_cons] at hk
  have e : toV sA (0, x) = .int (i64 x).toInt32 := congrArg Value.int (Int64.toInt32_ofInt).symm
  rw [e] at hk
  exact lv_l2i hx hb hd rfl hk
theorem nar8 (x : Int) : i32 (Int.bmod x 256) = (i32 x).toInt8.toInt32 := by
  rw [← i32_toInt (i32 x).toInt8.toInt32, Int8.toInt_toInt32]
  unfold i32
  rw [Int32.toInt8_ofInt, Int8.toInt_ofInt]
theorem nar16 (x : Int) : i32 (Int.bmod x 65536) = (i32 x).toInt16.toInt32 := by
  rw [← i32_toInt (i32 x).toInt16.toInt32, Int16.toInt_toInt32]
  unfold i32
  rw [Int32.toInt16_ofInt, Int16.toInt_ofInt]
theorem st_i2b (X : CTX p R s m args co nL mc own Ts cc) {x : Int} (hd : decode cc pc = .ok (.i2b, 1)) (hk : WW D B0 sA p l en R s m args below meth co Qf nL mc (pc + 1, ls, (0, Int.bmod x 256) :: r, V, S, g)) : WW D B0 sA p l en R s m args below meth co Qf nL mc (pc, ls, (0, x) :: r, V, S, g) := by
  intro lsM H locs hC hP hL hq g1 g2
  obtain ⟨hx, hb, -⟩ := X
  have hk := hk lsM H locs hC hP hL hq g1 g2
  rw [List.map_cons] at hk
  have e : toV sA (0, Int.bmod x 256) = .int (i32 x).toInt8.toInt32 := congrArg Value.int (nar8 x)
  rw [e] at hk
  exact lv_i2b hx hb hd rfl hk
theorem st_i2s (X : CTX p R s m args co nL mc own Ts cc) {x : Int} (hd : decode cc pc = .ok (.i2s, 1)) (hk : WW D B0 sA p l en R s m args below meth co Qf nL mc (pc + 1, ls, (0, Int.bmod x 65536) :: r, V, S, g)) : WW D B0 sA p l en R s m args below meth co Qf nL mc (pc, ls, (0, x) :: r, V, S, g) := by
  intro lsM H locs hC hP hL hq g1 g2
  obtain ⟨hx, hb, -⟩ := X
  have hk := hk lsM H locs hC hP hL hq g1 g2
  rw [List.map_cons] at hk
  have e : toV sA (0, Int.bmod x 65536) = .int (i32 x).toInt16.toInt32 := congrArg Value.int (nar16 x)
  rw [e] at hk
  exact lv_i2s hx hb hd rfl hk
theorem cmp64 (x y : Int) : i32 (lcmpI x y) = lg_cmp (i64 x) (i64 y) := by
  unfold lcmpI lg_cmp
  have h1 : i64 x > i64 y ↔ s64 y < s64 x := Int64.lt_iff_toInt_lt
  have h2 : i64 x = i64 y ↔ s64 x = s64 y := Int64.toInt_inj.symm
  by_cases a : s64 x < s64 y
  · rw [if_pos a, if_neg (fun z => by have := h1.mp z; omega), if_neg (fun z => by have := h2.mp z; omega)]
    rfl
  · rw [if_neg a]
    by_cases b : s64 x = s64 y
    · rw [if_pos b, if_neg (fun z => by have := h1.mp z; omega), if_pos (h2.mpr b)]
      rfl
    · rw [if_neg b, if_pos (h1.mpr (by omega))]
      rfl
theorem st_lcmp (X : CTX p R s m args co nL mc own Ts cc) {x y : Int} (hd : decode cc pc = .ok (.lcmp, 1)) (hk : WW D B0 sA p l en R s m args below meth co Qf nL mc (pc + 1, ls, (0, lcmpI x y) :: r, V, S, g)) : WW D B0 sA p l en R s m args below meth co Qf nL mc (pc, ls, (1, y) :: (1, x) :: r, V, S, g) := by
  intro lsM H locs hC hP hL hq g1 g2
  obtain ⟨hx, hb, -⟩ := X
  have hk := hk lsM H locs hC hP hL hq g1 g2
  rw [List.map_cons] at hk
  have e : toV sA (0, lcmpI x y) = .int (lg_cmp (i64 x) (i64 y)) := congrArg Value.int (cmp64 x y)
  rw [e] at hk
  exact W.lcmp hx hb hd hk
theorem st_dup (X : CTX p R s m args co nL mc own Ts cc) {t : Nat} {x : Int} (ht : t ≠ 1) (hd : decode cc pc = .ok (.dup, 1)) (hk : WW D B0 sA p l en R s m args below meth co Qf nL mc (pc + 1, ls, (t, x) :: (t, x) :: r, V, S, g)) : WW D B0 sA p l en R s m args below meth co Qf nL mc (pc, ls, (t, x) :: r, V, S, g) := by
  intro lsM H locs hC hP hL hq g1 g2
  obtain ⟨hx, hb, -⟩ := X
  exact lv_dup hx hb hd (cat_toF sA t x ht) (hk lsM H locs hC hP hL hq g1 g2)
theorem st_pop (X : CTX p R s m args co nL mc own Ts cc) {t : Nat} {x : Int} (ht : t ≠ 1) (hd : decode cc pc = .ok (.pop, 1)) (hk : WW D B0 sA p l en R s m args below meth co Qf nL mc (pc + 1, ls, r, V, S, g)) : WW D B0 sA p l en R s m args below meth co Qf nL mc (pc, ls, (t, x) :: r, V, S, g) := by
  intro lsM H locs hC hP hL hq g1 g2
  obtain ⟨hx, hb, -⟩ := X
  exact lv_pop hx hb hd (cat_toF sA t x ht) (hk lsM H locs hC hP hL hq g1 g2)
theorem st_dup2a (X : CTX p R s m args co nL mc own Ts cc) {x : Int} (hd : decode cc pc = .ok (.dup2, 1)) (hk : WW D B0 sA p l en R s m args below meth co Qf nL mc (pc + 1, ls, (1, x) :: (1, x) :: r, V, S, g)) : WW D B0 sA p l en R s m args below meth co Qf nL mc (pc, ls, (1, x) :: r, V, S, g) := by
  intro lsM H locs hC hP hL hq g1 g2
  obtain ⟨hx, hb, -⟩ := X
  exact lv_dup2_2 hx hb hd rfl (hk lsM H locs hC hP hL hq g1 g2)
theorem st_dup2b (X : CTX p R s m args co nL mc own Ts cc) {t u : Nat} {x y : Int} (ht : t ≠ 1) (hu : u ≠ 1) (hd : decode cc pc = .ok (.dup2, 1)) (hk : WW D B0 sA p l en R s m args below meth co Qf nL mc (pc + 1, ls, (t, y) :: (u, x) :: (t, y) :: (u, x) :: r, V, S, g)) : WW D B0 sA p l en R s m args below meth co Qf nL mc (pc, ls, (t, y) :: (u, x) :: r, V, S, g) := by
  intro lsM H locs hC hP hL hq g1 g2
  obtain ⟨hx, hb, -⟩ := X
  exact lv_dup2_11 hx hb hd (cat_toF sA t y ht) (cat_toF sA u x hu) (hk lsM H locs hC hP hL hq g1 g2)
theorem st_dup_x1 (X : CTX p R s m args co nL mc own Ts cc) {t u : Nat} {x y : Int} (ht : t ≠ 1) (hu : u ≠ 1) (hd : decode cc pc = .ok (.dup_x1, 1)) (hk : WW D B0 sA p l en R s m args below meth co Qf nL mc (pc + 1, ls, (t, y) :: (u, x) :: (t, y) :: r, V, S, g)) : WW D B0 sA p l en R s m args below meth co Qf nL mc (pc, ls, (t, y) :: (u, x) :: r, V, S, g) := by
  intro lsM H locs hC hP hL hq g1 g2
  obtain ⟨hx, hb, -⟩ := X
  exact lv_dup_x1 hx hb hd (cat_toF sA t y ht) (cat_toF sA u x hu) (hk lsM H locs hC hP hL hq g1 g2)
theorem st_if_eq (X : CTX p R s m args co nL mc own Ts cc) {x : Int} {off : Int} {tgt : Nat} (ht : (pc : Int) + off = (tgt : Int)) (hd : decode cc pc = .ok (.ifCond .eq off, 3)) (hk : (s32 x = 0 → WW D B0 sA p l en R s m args below meth co Qf nL mc (tgt, ls, r, V, S, g)) ∧ (¬ s32 x = 0 → WW D B0 sA p l en R s m args below meth co Qf nL mc (pc + 3, ls, r, V, S, g))) : WW D B0 sA p l en R s m args below meth co Qf nL mc (pc, ls, (0, x) :: r, V, S, g) := by
  intro lsM H locs hC hP hL hq g1 g2
  obtain ⟨hx, hb, -⟩ := X
  exact lv_if_eq hx hb hd ht (fun z => hk.1 ((i32_0 x).mp z) lsM H locs hC hP hL hq g1 g2) (fun z => hk.2 (fun w => z ((i32_0 x).mpr w)) lsM H locs hC hP hL hq g1 g2)
theorem st_if_ne (X : CTX p R s m args co nL mc own Ts cc) {x : Int} {off : Int} {tgt : Nat} (ht : (pc : Int) + off = (tgt : Int)) (hd : decode cc pc = .ok (.ifCond .ne off, 3)) (hk : (s32 x = 0 → WW D B0 sA p l en R s m args below meth co Qf nL mc (pc + 3, ls, r, V, S, g)) ∧ (¬ s32 x = 0 → WW D B0 sA p l en R s m args below meth co Qf nL mc (tgt, ls, r, V, S, g))) : WW D B0 sA p l en R s m args below meth co Qf nL mc (pc, ls, (0, x) :: r, V, S, g) := by
  intro lsM H locs hC hP hL hq g1 g2
  obtain ⟨hx, hb, -⟩ := X
  exact lv_if_ne hx hb hd ht (fun z => hk.2 (fun w => z ((i32_0 x).mpr w)) lsM H locs hC hP hL hq g1 g2) (fun z => hk.1 ((i32_0 x).mp z) lsM H locs hC hP hL hq g1 g2)
theorem st_if_lt (X : CTX p R s m args co nL mc own Ts cc) {x : Int} {off : Int} {tgt : Nat} (ht : (pc : Int) + off = (tgt : Int)) (hd : decode cc pc = .ok (.ifCond .lt off, 3)) (hk : (s32 x < 0 → WW D B0 sA p l en R s m args below meth co Qf nL mc (tgt, ls, r, V, S, g)) ∧ (¬ s32 x < 0 → WW D B0 sA p l en R s m args below meth co Qf nL mc (pc + 3, ls, r, V, S, g))) : WW D B0 sA p l en R s m args below meth co Qf nL mc (pc, ls, (0, x) :: r, V, S, g) := by
  intro lsM H locs hC hP hL hq g1 g2
  obtain ⟨hx, hb, -⟩ := X
  exact lv_if_lt hx hb hd ht (fun z => hk.1 ((i32_lt0 x).mp z) lsM H locs hC hP hL hq g1 g2) (fun z => hk.2 (fun w => z ((i32_lt0 x).mpr w)) lsM H locs hC hP hL hq g1 g2)
theorem st_if_ge (X : CTX p R s m args co nL mc own Ts cc) {x : Int} {off : Int} {tgt : Nat} (ht : (pc : Int) + off = (tgt : Int)) (hd : decode cc pc = .ok (.ifCond .ge off, 3)) (hk : (s32 x < 0 → WW D B0 sA p l en R s m args below meth co Qf nL mc (pc + 3, ls, r, V, S, g)) ∧ (¬ s32 x < 0 → WW D B0 sA p l en R s m args below meth co Qf nL mc (tgt, ls, r, V, S, g))) : WW D B0 sA p l en R s m args below meth co Qf nL mc (pc, ls, (0, x) :: r, V, S, g) := by
  intro lsM H locs hC hP hL hq g1 g2
  obtain ⟨hx, hb, -⟩ := X
  exact lv_if_ge hx hb hd ht (fun z => hk.2 ((i32_ge0 x).mp z) lsM H locs hC hP hL hq g1 g2) (fun z => hk.1 (Classical.byContradiction fun w => z ((i32_ge0 x).mpr w)) lsM H locs hC hP hL hq g1 g2)
theorem st_if_gt (X : CTX p R s m args co nL mc own Ts cc) {x : Int} {off : Int} {tgt : Nat} (ht : (pc : Int) + off = (tgt : Int)) (hd : decode cc pc = .ok (.ifCond .gt off, 3)) (hk : (0 < s32 x → WW D B0 sA p l en R s m args below meth co Qf nL mc (tgt, ls, r, V, S, g)) ∧ (¬ 0 < s32 x → WW D B0 sA p l en R s m args below meth co Qf nL mc (pc + 3, ls, r, V, S, g))) : WW D B0 sA p l en R s m args below meth co Qf nL mc (pc, ls, (0, x) :: r, V, S, g) := by
  intro lsM H locs hC hP hL hq g1 g2
  obtain ⟨hx, hb, -⟩ := X
  exact lv_if_gt hx hb hd ht (fun z => hk.1 ((i32_gt0 x).mp z) lsM H locs hC hP hL hq g1 g2) (fun z => hk.2 (fun w => z ((i32_gt0 x).mpr w)) lsM H locs hC hP hL hq g1 g2)
theorem st_if_le (X : CTX p R s m args co nL mc own Ts cc) {x : Int} {off : Int} {tgt : Nat} (ht : (pc : Int) + off = (tgt : Int)) (hd : decode cc pc = .ok (.ifCond .le off, 3)) (hk : (0 < s32 x → WW D B0 sA p l en R s m args below meth co Qf nL mc (pc + 3, ls, r, V, S, g)) ∧ (¬ 0 < s32 x → WW D B0 sA p l en R s m args below meth co Qf nL mc (tgt, ls, r, V, S, g))) : WW D B0 sA p l en R s m args below meth co Qf nL mc (pc, ls, (0, x) :: r, V, S, g) := by
  intro lsM H locs hC hP hL hq g1 g2
  obtain ⟨hx, hb, -⟩ := X
  exact lv_if_le hx hb hd ht (fun z => hk.2 ((i32_le0 x).mp z) lsM H locs hC hP hL hq g1 g2) (fun z => hk.1 (Classical.byContradiction fun w => z ((i32_le0 x).mpr w)) lsM H locs hC hP hL hq g1 g2)
theorem st_icmp_eq (X : CTX p R s m args co nL mc own Ts cc) {x y : Int} {off : Int} {tgt : Nat} (ht : (pc : Int) + off = (tgt : Int)) (hd : decode cc pc = .ok (.if_icmp .eq off, 3)) (hk : (s32 x = s32 y → WW D B0 sA p l en R s m args below meth co Qf nL mc (tgt, ls, r, V, S, g)) ∧ (¬ s32 x = s32 y → WW D B0 sA p l en R s m args below meth co Qf nL mc (pc + 3, ls, r, V, S, g))) : WW D B0 sA p l en R s m args below meth co Qf nL mc (pc, ls, (0, y) :: (0, x) :: r, V, S, g) := by
  intro lsM H locs hC hP hL hq g1 g2
  obtain ⟨hx, hb, -⟩ := X
  exact lv_icmp_eq hx hb hd ht (fun z => hk.1 ((i32_eq x y).mp z) lsM H locs hC hP hL hq g1 g2) (fun z => hk.2 (fun w => z ((i32_eq x y).mpr w)) lsM H locs hC hP hL hq g1 g2)
theorem st_icmp_ne (X : CTX p R s m args co nL mc own Ts cc) {x y : Int} {off : Int} {tgt : Nat} (ht : (pc : Int) + off = (tgt : Int)) (hd : decode cc pc = .ok (.if_icmp .ne off, 3)) (hk : (s32 x = s32 y → WW D B0 sA p l en R s m args below meth co Qf nL mc (pc + 3, ls, r, V, S, g)) ∧ (¬ s32 x = s32 y → WW D B0 sA p l en R s m args below meth co Qf nL mc (tgt, ls, r, V, S, g))) : WW D B0 sA p l en R s m args below meth co Qf nL mc (pc, ls, (0, y) :: (0, x) :: r, V, S, g) := by
  intro lsM H locs hC hP hL hq g1 g2
  obtain ⟨hx, hb, -⟩ := X
  exact lv_icmp_ne hx hb hd ht (fun z => hk.2 (fun w => z ((i32_eq x y).mpr w)) lsM H locs hC hP hL hq g1 g2) (fun z => hk.1 ((i32_eq x y).mp z) lsM H locs hC hP hL hq g1 g2)
theorem st_icmp_lt (X : CTX p R s m args co nL mc own Ts cc) {x y : Int} {off : Int} {tgt : Nat} (ht : (pc : Int) + off = (tgt : Int)) (hd : decode cc pc = .ok (.if_icmp .lt off, 3)) (hk : (s32 x < s32 y → WW D B0 sA p l en R s m args below meth co Qf nL mc (tgt, ls, r, V, S, g)) ∧ (¬ s32 x < s32 y → WW D B0 sA p l en R s m args below meth co Qf nL mc (pc + 3, ls, r, V, S, g))) : WW D B0 sA p l en R s m args below meth co Qf nL mc (pc, ls, (0, y) :: (0, x) :: r, V, S, g) := by
  intro lsM H locs hC hP hL hq g1 g2
  obtain ⟨hx, hb, -⟩ := X
  exact lv_icmp_lt hx hb hd ht (fun z => hk.1 ((i32_lt x y).mp z) lsM H locs hC hP hL hq g1 g2) (fun z => hk.2 (fun w => z ((i32_lt x y).mpr w)) lsM H locs hC hP hL hq g1 g2)
theorem st_icmp_ge (X : CTX p R s m args co nL mc own Ts cc) {x y : Int} {off : Int} {tgt : Nat} (ht : (pc : Int) + off = (tgt : Int)) (hd : decode cc pc = .ok (.if_icmp .ge off, 3)) (hk : (s32 x < s32 y → WW D B0 sA p l en R s m args below meth co Qf nL mc (pc + 3, ls, r, V, S, g)) ∧ (¬ s32 x < s32 y → WW D B0 sA p l en R s m args below meth co Qf nL mc (tgt, ls, r, V, S, g))) : WW D B0 sA p l en R s m args below meth co Qf nL mc (pc, ls, (0, y) :: (0, x) :: r, V, S, g) := by
  intro lsM H locs hC hP hL hq g1 g2
  obtain ⟨hx, hb, -⟩ := X
  exact lv_icmp_ge hx hb hd ht (fun z => hk.2 ((i32_le y x).mp z) lsM H locs hC hP hL hq g1 g2) (fun z => hk.1 (Classical.byContradiction fun w => z ((i32_le y x).mpr w)) lsM H locs hC hP hL hq g1 g2)
theorem st_icmp_gt (X : CTX p R s m args co nL mc own Ts cc) {x y : Int} {off : Int} {tgt : Nat} (ht : (pc : Int) + off = (tgt : Int)) (hd : decode cc pc = .ok (.if_icmp .gt off, 3)) (hk : (s32 y < s32 x → WW D B0 sA p l en R s m args below meth co Qf nL mc (tgt, ls, r, V, S, g)) ∧ (¬ s32 y < s32 x → WW D B0 sA p l en R s m args below meth co Qf nL mc (pc + 3, ls, r, V, S, g))) : WW D B0 sA p l en R s m args below meth co Qf nL mc (pc, ls, (0, y) :: (0, x) :: r, V, S, g) := by
  intro lsM H locs hC hP hL hq g1 g2
  obtain ⟨hx, hb, -⟩ := X
  exact lv_icmp_gt hx hb hd ht (fun z => hk.1 ((i32_lt y x).mp z) lsM H locs hC hP hL hq g1 g2) (fun z => hk.2 (fun w => z ((i32_lt y x).mpr w)) lsM H locs hC hP hL hq g1 g2)
theorem st_icmp_le (X : CTX p R s m args co nL mc own Ts cc) {x y : Int} {off : Int} {tgt : Nat} (ht : (pc : Int) + off = (tgt : Int)) (hd : decode cc pc = .ok (.if_icmp .le off, 3)) (hk : (s32 y < s32 x → WW D B0 sA p l en R s m args below meth co Qf nL mc (pc + 3, ls, r, V, S, g)) ∧ (¬ s32 y < s32 x → WW D B0 sA p l en R s m args below meth co Qf nL mc (tgt, ls, r, V, S, g))) : WW D B0 sA p l en R s m args below meth co Qf nL mc (pc, ls, (0, y) :: (0, x) :: r, V, S, g) := by
  intro lsM H locs hC hP hL hq g1 g2
  obtain ⟨hx, hb, -⟩ := X
  exact lv_icmp_le hx hb hd ht (fun z => hk.2 ((i32_le x y).mp z) lsM H locs hC hP hL hq g1 g2) (fun z => hk.1 (Classical.byContradiction fun w => z ((i32_le x y).mpr w)) lsM H locs hC hP hL hq g1 g2)
theorem st_ifnull (X : CTX p R s m args co nL mc own Ts cc) {x : Int} {off : Int} {tgt : Nat} (ht : (pc : Int) + off = (tgt : Int)) (hd : decode cc pc = .ok (.ifnull off, 3)) (hk : (x = -1 → WW D B0 sA p l en R s m args below meth co Qf nL mc (tgt, ls, r, V, S, g)) ∧ (¬ x = -1 → WW D B0 sA p l en R s m args below meth co Qf nL mc (pc + 3, ls, r, V, S, g))) : WW D B0 sA p l en R s m args below meth co Qf nL mc (pc, ls, (2, x) :: r, V, S, g) := by
  intro lsM H locs hC hP hL hq g1 g2
  obtain ⟨hx, hb, -⟩ := X
  show W p l en R s m args below meth co H locs g.1 g.2 Qf (F0 m pc lsM (toV sA (2, x) :: r.map (toV sA)))
  by_cases hx1 : x = -1
  · have e : toV sA (2, x) = .null := by show va_rf (rfo sA x) = _; unfold rfo; rw [if_pos hx1]; rfl
    rw [e]
    exact lv_ifnullN hx hb hd ht (hk.1 hx1 lsM H locs hC hP hL hq g1 g2)
  · have e : toV sA (2, x) = .ref (toA sA x) := by show va_rf (rfo sA x) = _; unfold rfo; rw [if_neg hx1]; rfl
    rw [e]
    exact lv_ifnull hx hb hd (hk.2 hx1 lsM H locs hC hP hL hq g1 g2)
theorem st_ifnonnull (X : CTX p R s m args co nL mc own Ts cc) {x : Int} {off : Int} {tgt : Nat} (ht : (pc : Int) + off = (tgt : Int)) (hd : decode cc pc = .ok (.ifnonnull off, 3)) (hk : (x = -1 → WW D B0 sA p l en R s m args below meth co Qf nL mc (pc + 3, ls, r, V, S, g)) ∧ (¬ x = -1 → WW D B0 sA p l en R s m args below meth co Qf nL mc (tgt, ls, r, V, S, g))) : WW D B0 sA p l en R s m args below meth co Qf nL mc (pc, ls, (2, x) :: r, V, S, g) := by
  intro lsM H locs hC hP hL hq g1 g2
  obtain ⟨hx, hb, -⟩ := X
  show W p l en R s m args below meth co H locs g.1 g.2 Qf (F0 m pc lsM (toV sA (2, x) :: r.map (toV sA)))
  by_cases hx1 : x = -1
  · have e : toV sA (2, x) = .null := by show va_rf (rfo sA x) = _; unfold rfo; rw [if_pos hx1]; rfl
    rw [e]
    exact lv_ifnonnullN hx hb hd (hk.1 hx1 lsM H locs hC hP hL hq g1 g2)
  · have e : toV sA (2, x) = .ref (toA sA x) := by show va_rf (rfo sA x) = _; unfold rfo; rw [if_neg hx1]; rfl
    rw [e]
    exact lv_ifnonnull hx hb hd ht (hk.2 hx1 lsM H locs hC hP hL hq g1 g2)
theorem st_goto (X : CTX p R s m args co nL mc own Ts cc) {off : Int} {tgt : Nat} (ht : (pc : Int) + off = (tgt : Int)) (hd : decode cc pc = .ok (.goto off, 3)) (hk : WW D B0 sA p l en R s m args below meth co Qf nL mc (tgt, ls, r, V, S, g)) : WW D B0 sA p l en R s m args below meth co Qf nL mc (pc, ls, r, V, S, g) := by
  intro lsM H locs hC hP hL hq g1 g2
  obtain ⟨hx, hb, -⟩ := X
  exact lv_goto hx hb hd ht (hk lsM H locs hC hP hL hq g1 g2)
end RU
