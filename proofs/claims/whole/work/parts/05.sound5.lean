/-! calls and ends -/
def rmD (d : Nat) (c : Cnt) : Room := { frames := d, cells := c.1, slots := c.2, locals := 200 * d }
def wsM (y : Nat) : List Cond := Cond.code (mnm y) (mby y) (mlo y) (mrt y) :: Tb
section CA
variable (D : va_G) (B0 : Nat) (sA : Nat → Nat)
def PreM (As : List XV) (V : Mem) (S : Shp) : Array Value → State → Prop := fun v U => v = (As.map (toV sA)).toArray ∧ CX D B0 sA U U.heap ∧ PPx D B0 sA U V S U.heap
def PostM (w : Res) : Array Value → State → Outcome → State → Prop := fun _ _ o t => o = .returned (w.1.map (toV sA)) ∧ CX D B0 sA t t.heap ∧ PPx D B0 sA t w.2.1 w.2.2 t.heap
def METF (l : Launch) (d y : Nat) (As : List XV) (V : Mem) (S : Shp) (w : Res) : Prop := Met l (mnm y) (wsM y) (rmD d (mcc y)) (PreM D B0 sA As V S) (PostM D B0 sA w) (mcc y).1 (mcc y).2 (fun q => B0 ≤ q)
abbrev METS (l : Launch) (d y : Nat) (As : List XV) (V : Mem) (S : Shp) (w : Res) : Prop := METF D B0 sA l (d + 6) y As V S w
end CA
def OKM (y : Nat) : Prop := Cond.code (mnm y) (mby y) (mlo y) (mrt y) ∈ Tb ∧ Cond.initialized (mnm y).cls ∈ Tb ∧ ((mnm y).cls ≠ "java/lang/invoke/MethodHandle" ∧ (mnm y).cls ≠ "java/lang/invoke/VarHandle") ∧ mlo y ≤ 30
def npar (y : Nat) : Option Nat := (parseMethodDescriptor (mnm y).desc).map (fun d => d.parameters.length)
set_option maxRecDepth 100000 in
theorem room_ar {k d L : Nat} (h : k ≤ 30) (h2 : 200 * (d + 1) ≤ L) : 8 + (k + 11) + 200 * d ≤ L := by omega
section CB
variable {D : va_G} {B0 : Nat} {sA : Nat → Nat} {p : Program} {l : Launch} {en : Env} {R : Room} {s : State} {m : MethodId} {args : Array Value} {below : List Frame} {meth : Method} {co : Code} {Qf : State → Prop} {nL : Nat} {mc : Cnt}
variable {own : String} {Ts : List Cond} {cc : ByteArray} {pc : Nat} {ls : List XV} {rest : List XV} {V : Mem} {S : Shp} {g : Cnt}
theorem CX.same {u U : State} {H : Heap} (hv : U.vm = u.vm) (h : CX D B0 sA u H) : CX D B0 sA U H := by
  have ha : u.vm.Alike U.vm := by rw [hv]; exact Vm.Alike.refl _
  exact ⟨fun c q hq => u_Kn_moved ha (h.1 c q hq), ⟨h.2.1.1.moved ha, h.2.1.2.1.moved ha, h.2.1.2.2.1.moved ha, h.2.1.2.2.2.moved ha⟩, fun i q hq => (h.2.2.1 i q hq).same hv, fun a i x h9 hm => (h.2.2.2.1 a i x h9 hm).same rfl hv.symm, fun C hm => (h.2.2.2.2 C hm).moved ha⟩
theorem pre_blind (As : List XV) (V : Mem) (S : Shp) : FrameBlind (PreM D B0 sA As V S) := by
  intro a U g mk ⟨h1, h2, h3⟩
  exact ⟨h1, h2.same rfl, h3.moved (Vm.Alike.refl _)⟩
theorem pre_at {As : List XV} {H : Heap} (hC : CX D B0 sA s H) (hP : PPx D B0 sA s V S H) : ∀ U : State, U.heap = H → s.WarmedH U.vm → PreM D B0 sA As V S ((As.map (toV sA)).toArray) U := by
  intro U hU hW
  subst hU
  exact ⟨rfl, hC.warm hW, hP.moved hW.alike⟩
theorem good_ws {y : Nat} (hm : OKM y) (hTb : ∀ w ∈ Tb, w ∈ Ts) : GoodIn Ts (wsM y) := by
  have h : ∀ w ∈ Tb, w ∈ Ts ∧ ((w.onTables && w.keeps) = true ∨ ∃ ty, w = .arrayClass ty) := fun w hw => ⟨hTb w hw, good_of_word (List.mem_filter.mp hw).2⟩
  intro w hw
  rcases List.mem_cons.mp hw with e | e
  · rw [e]; exact h _ hm.1
  · exact h _ e
theorem call_go {H : Heap} {locs : List Loc} {lsM : Array Slot} {st0 restM : List Value} {k1 k2 c1 c2 : Nat} {w : Res} {av : Array Value} (hr : va_Run p l en R s m args below meth co H locs k1 k2 c1 c2 (F0 m pc lsM st0) restM (PostM D B0 sA w av) (fun q => B0 ≤ q)) (hC : CX D B0 sA s H) (hq : ∀ q ∈ locs, B0 ≤ q.base)
    (kk : ∀ (H1 : Heap) (locs1 : List Loc), CX D B0 sA s H1 → PPx D B0 sA s w.2.1 w.2.2 H1 → (∀ q ∈ locs1, B0 ≤ q.base) → W p l en R s m args below meth co H1 locs1 (k1 + c1) (k2 + c2) Qf (F0 m (pc + 3) lsM ((w.1.map (toV sA)).toList ++ restM))) : W p l en R s m args below meth co H locs k1 k2 Qf (F0 m pc lsM st0) := by
  intro T hT X
  obtain ⟨v, st₀, t, T', L, h0, X', hL, e1, e2, ⟨hv, hc, hp⟩, st⟩ := hr T hT X
  have hv : v = w.1.map (toV sA) := Outcome.returned.inj hv
  subst hv
  have ha : t.vm.Alike s.vm := by rw [← e2]; exact X'.warmed.alike.symm
  obtain ⟨t2, a1, b1⟩ := kk T'.heap (locs ++ L) (by rw [e1]; exact hC.back hc ha) (by rw [e1]; exact hp.moved ha) (fun q h => by
    rcases List.mem_append.mp h with h | h
    · exact hq q h
    · exact hL q h) T' rfl X'
  exact ⟨t2, st t2 a1, b1⟩
theorem callB (X : CTX p R s m args co nL mc own Ts cc) {d y idx n : Nat} (hm : OKM y) (hn : npar y = some n) (hR1 : d + 1 ≤ R.frames) (hR2 : 200 * (d + 1) ≤ R.locals) (hl : (Cond.methodLink own idx (mnm y)).before args s = true) :
    CallB R s args own idx (mnm y) (mby y) (mlo y) (mrt y) (wsM y) (rmD d (mcc y)) (mcc y).1 (mcc y).2 n := by
  obtain ⟨hx, hb, hml, hown, hts, hTb, -⟩ := X
  refine ⟨rfl, rfl, hR1, ?_, pay_in hts (good_ws hm hTb), List.mem_cons_self, hts _ (hTb _ hm.1), hts _ (hTb _ hm.2.1), hm.2.2.1, fun sig h => ?_, hl⟩
  · exact room_ar hm.2.2.2 hR2
  · unfold npar at hn
    rw [h] at hn
    exact (Option.some.inj hn).symm
theorem callN (X : CTX p R s m args co nL mc own Ts cc) {d y idx n : Nat} {host : String} (hm : OKM y) (hn : npar y = some n) (hR1 : d + 1 ≤ R.frames) (hR2 : 200 * (d + 1) ≤ R.locals) (hl : va_Nw (.methodLinkNest own idx (mnm y) host) s) :
    va_CN R s args own idx (mnm y) host (mby y) (mlo y) (mrt y) (wsM y) (rmD d (mcc y)) (mcc y).1 (mcc y).2 n := by
  obtain ⟨hx, hb, hml, hown, hts, hTb, -⟩ := X
  refine ⟨⟨rfl, rfl, hR1, ?_, pay_in hts (good_ws hm hTb), List.mem_cons_self⟩, hts _ (hTb _ hm.1), hts _ (hTb _ hm.2.1), hm.2.2.1, fun sig h => ?_, va_Nw.use rfl hl⟩
  · exact room_ar hm.2.2.2 hR2
  · unfold npar at hn
    rw [h] at hn
    exact (Option.some.inj hn).symm
theorem st_callV (X : CTX p R s m args co nL mc own Ts cc) {d y idx n : Nat} {o : Int} {As st : List XV} {w : Res} (hm : OKM y) (hn : npar y = some n) (hAn : As.length = n) (hR1 : d + 1 ≤ R.frames) (hR2 : 200 * (d + 1) ≤ R.locals) (hl : Cond.methodLink own idx (mnm y) ∈ Tb) (hi : Cond.instanceMethod (mnm y) ∈ Tb) (hs : Cond.selects (mnm y).cls (mnm y) (mnm y) ∈ Tb)
    (hM : METF D B0 sA l d y ((2, o) :: As) V S w) (hrv : ∀ H, CX D B0 sA s H → PPx D B0 sA s V S H → o ≠ -1 ∧ ∃ cell : Cell, H[toA sA o]? = some cell ∧ cell.vm.isStatics = false ∧ s.vm.findClass (mnm y).cls = some cell.cls) (hst : st = As.reverse ++ (2, o) :: rest) (hct : cats rest ≤ 8) (hg : g.1 + (mcc y).1 ≤ mc.1 ∧ g.2 + (mcc y).2 ≤ mc.2) (hd : decode cc pc = .ok (.invokevirtual idx, 3))
    (hk : WW D B0 sA p l en R s m args below meth co Qf nL mc (pc + 3, ls, w.1.toList ++ rest, w.2.1, w.2.2, (g.1 + (mcc y).1, g.2 + (mcc y).2))) : WW D B0 sA p l en R s m args below meth co Qf nL mc (pc, ls, st, V, S, g) := by
  intro lsM H locs hC hP hL hq g1 g2
  have hP : PPx D B0 sA s V S H := hP
  have hB := callB X hm hn hR1 hR2 (X.2.2.2.2.1 _ (X.2.2.2.2.2.1 _ hl))
  obtain ⟨hx, hb, hml, hown, hts, hTb, hRc, hRs⟩ := X
  obtain ⟨ho, cell, hcell⟩ := hrv H hC hP
  have e0 : ((2, o) :: As : List XV).map (toV sA) = .ref (toA sA o) :: As.map (toV sA) := by rw [List.map_cons, toV_refA ho]
  have hpre : PreV s H (mnm y).cls (toA sA o) (PreM D B0 sA ((2, o) :: As) V S) (As.map (toV sA)) := ⟨pre_blind _ _ _, ⟨cell, hcell⟩, fun U hU hW => by
    have := pre_at (As := (2, o) :: As) hC hP U hU hW
    rw [e0] at this
    exact this⟩
  have hstM : (st.map (toV sA)) = (As.map (toV sA)).reverse ++ .ref (toA sA o) :: rest.map (toV sA) := by
    rw [hst, List.map_append, List.map_reverse, List.map_cons, toV_refA ho]
  refine call_go (va_runV (As := As.map (toV sA)) (rest := rest.map (toV sA)) (g := F0 m pc lsM (st.map (toV sA))) ⟨hx, hb, hml, hown, hts⟩ hM ⟨hB, hts _ (hTb _ hi), hts _ (hTb _ hs)⟩ hpre rfl (by rw [List.length_map]; exact hAn) hL.mem hstM (lv_room (by rw [cats_eq]; exact hct)) hd ⟨Nat.le_trans hg.1 hRc, Nat.le_trans hg.2 hRs⟩) hC hq (fun H1 locs1 hC1 hP1 hq1 => ?_)
  have h9 := hk lsM H1 locs1 hC1 hP1 hL hq1 hg.1 hg.2
  rw [List.map_append] at h9
  have e9 : (w.1.toList).map (toV sA) = (w.1.map (toV sA)).toList := by cases w.1 <;> rfl
  rw [e9] at h9
  exact h9
theorem st_callI (X : CTX p R s m args co nL mc own Ts cc) {d y idx n : Nat} {o : Int} {As st : List XV} {w : Res} (hm : OKM y) (hn : npar y = some n) (hAn : As.length = n) (hR1 : d + 1 ≤ R.frames) (hR2 : 200 * (d + 1) ≤ R.locals) (hl : Cond.methodLink own idx (mnm y) ∈ Tb ∨ ∃ host, Cond.methodLinkNest own idx (mnm y) host ∈ lw_tbl) (hi : Cond.instanceMethod (mnm y) ∈ Tb) (hy : (mnm y).name = "<init>") (hrt : mrt y = none)
    (hM : METF D B0 sA l d y ((2, o) :: As) V S w) (ho : o ≠ -1) (hst : st = As.reverse ++ (2, o) :: rest) (hct : cats rest ≤ 8) (hg : g.1 + (mcc y).1 ≤ mc.1 ∧ g.2 + (mcc y).2 ≤ mc.2) (hd : decode cc pc = .ok (.invokespecial idx, 3))
    (hk : WW D B0 sA p l en R s m args below meth co Qf nL mc (pc + 3, ls, w.1.toList ++ rest, w.2.1, w.2.2, (g.1 + (mcc y).1, g.2 + (mcc y).2))) : WW D B0 sA p l en R s m args below meth co Qf nL mc (pc, ls, st, V, S, g) := by
  intro lsM H locs hC hP hL hq g1 g2
  have hP : PPx D B0 sA s V S H := hP
  have X0 := X
  obtain ⟨hx, hb, hml, hown, hts, hTb, hRc, hRs⟩ := X
  have e0 : ((2, o) :: As : List XV).map (toV sA) = .ref (toA sA o) :: As.map (toV sA) := by rw [List.map_cons, toV_refA ho]
  have hpre : PreS s H (PreM D B0 sA ((2, o) :: As) V S) (.ref (toA sA o) :: As.map (toV sA)) := ⟨pre_blind _ _ _, fun U hU hW => by
    have := pre_at (As := (2, o) :: As) hC hP U hU hW
    rw [e0] at this
    exact this⟩
  have hstM : (st.map (toV sA)) = (As.map (toV sA)).reverse ++ .ref (toA sA o) :: rest.map (toV sA) := by
    rw [hst, List.map_append, List.map_reverse, List.map_cons, toV_refA ho]
  have fin : ∀ (H1 : Heap) (locs1 : List Loc), CX D B0 sA s H1 → PPx D B0 sA s w.2.1 w.2.2 H1 → (∀ q ∈ locs1, B0 ≤ q.base) → W p l en R s m args below meth co H1 locs1 (g.1 + (mcc y).1) (g.2 + (mcc y).2) Qf (F0 m (pc + 3) lsM ((w.1.map (toV sA)).toList ++ rest.map (toV sA))) := by
    intro H1 locs1 hC1 hP1 hq1
    have h9 := hk lsM H1 locs1 hC1 hP1 hL hq1 hg.1 hg.2
    rw [List.map_append] at h9
    have e9 : (w.1.toList).map (toV sA) = (w.1.map (toV sA)).toList := by cases w.1 <;> rfl
    rw [e9] at h9
    exact h9
  rcases hl with hl | ⟨host, hl⟩
  · have hB := callB X0 hm hn hR1 hR2 (hts _ (hTb _ hl))
    rw [hrt] at hB
    exact call_go (va_runI (As := As.map (toV sA)) (rest := rest.map (toV sA)) (g := F0 m pc lsM (st.map (toV sA))) ⟨hx, hb, hml, hown, hts⟩ hM ⟨hB, hy, hts _ (hTb _ hi)⟩ hpre rfl (by rw [List.length_map]; exact hAn) hL.mem hstM (lv_room (by rw [cats_eq]; exact hct)) hd ⟨Nat.le_trans hg.1 hRc, Nat.le_trans hg.2 hRs⟩) hC hq fin
  · have hB := callN X0 hm hn hR1 hR2 (hC.2.2.2.1 _ _ _ _ hl)
    rw [hrt] at hB
    exact call_go (va_runIN (As := As.map (toV sA)) (rest := rest.map (toV sA)) (g := F0 m pc lsM (st.map (toV sA))) ⟨hx, hb, hml, hown, hts⟩ hM ⟨hB, hy, hts _ (hTb _ hi)⟩ hpre rfl (by rw [List.length_map]; exact hAn) hL.mem hstM (lv_room (by rw [cats_eq]; exact hct)) hd ⟨Nat.le_trans hg.1 hRc, Nat.le_trans hg.2 hRs⟩) hC hq fin
theorem st_callS (X : CTX p R s m args co nL mc own Ts cc) {d y idx n : Nat} {As st : List XV} {w : Res} (hm : OKM y) (hn : npar y = some n) (hAn : As.length = n) (hR1 : d + 1 ≤ R.frames) (hR2 : 200 * (d + 1) ≤ R.locals) (hl : Cond.methodLink own idx (mnm y) ∈ Tb ∨ ∃ host, Cond.methodLinkNest own idx (mnm y) host ∈ lw_tbl) (hi : Cond.static (mnm y) ∈ Tb)
    (hM : METF D B0 sA l d y As V S w) (hst : st = As.reverse ++ rest) (hct : cats rest ≤ 8) (hg : g.1 + (mcc y).1 ≤ mc.1 ∧ g.2 + (mcc y).2 ≤ mc.2) (hd : decode cc pc = .ok (.invokestatic idx, 3))
    (hk : WW D B0 sA p l en R s m args below meth co Qf nL mc (pc + 3, ls, w.1.toList ++ rest, w.2.1, w.2.2, (g.1 + (mcc y).1, g.2 + (mcc y).2))) : WW D B0 sA p l en R s m args below meth co Qf nL mc (pc, ls, st, V, S, g) := by
  intro lsM H locs hC hP hL hq g1 g2
  have hP : PPx D B0 sA s V S H := hP
  have X0 := X
  obtain ⟨hx, hb, hml, hown, hts, hTb, hRc, hRs⟩ := X
  have hpre : PreS s H (PreM D B0 sA As V S) (As.map (toV sA)) := ⟨pre_blind _ _ _, pre_at (As := As) hC hP⟩
  have hstM : (st.map (toV sA)) = (As.map (toV sA)).reverse ++ rest.map (toV sA) := by
    rw [hst, List.map_append, List.map_reverse]
  have fin : ∀ (H1 : Heap) (locs1 : List Loc), CX D B0 sA s H1 → PPx D B0 sA s w.2.1 w.2.2 H1 → (∀ q ∈ locs1, B0 ≤ q.base) → W p l en R s m args below meth co H1 locs1 (g.1 + (mcc y).1) (g.2 + (mcc y).2) Qf (F0 m (pc + 3) lsM ((w.1.map (toV sA)).toList ++ rest.map (toV sA))) := by
    intro H1 locs1 hC1 hP1 hq1
    have h9 := hk lsM H1 locs1 hC1 hP1 hL hq1 hg.1 hg.2
    rw [List.map_append] at h9
    have e9 : (w.1.toList).map (toV sA) = (w.1.map (toV sA)).toList := by cases w.1 <;> rfl
    rw [e9] at h9
    exact h9
  rcases hl with hl | ⟨host, hl⟩
  · have hB := callB X0 hm hn hR1 hR2 (hts _ (hTb _ hl))
    exact call_go (va_runS (As := As.map (toV sA)) (rest := rest.map (toV sA)) (g := F0 m pc lsM (st.map (toV sA))) ⟨hx, hb, hml, hown, hts⟩ hM ⟨hB, hts _ (hTb _ hi)⟩ hpre rfl (by rw [List.length_map]; exact hAn) hL.mem hstM (lv_room (by rw [cats_eq]; exact hct)) hd ⟨Nat.le_trans hg.1 hRc, Nat.le_trans hg.2 hRs⟩) hC hq fin
  · have hB := callN X0 hm hn hR1 hR2 (hC.2.2.2.1 _ _ _ _ hl)
    exact call_go (va_runSN (As := As.map (toV sA)) (rest := rest.map (toV sA)) (g := F0 m pc lsM (st.map (toV sA))) ⟨hx, hb, hml, hown, hts⟩ hM ⟨hB, hts _ (hTb _ hi), trivial⟩ hpre rfl (by rw [List.length_map]; exact hAn) hL.mem hstM (lv_room (by rw [cats_eq]; exact hct)) hd ⟨Nat.le_trans hg.1 hRc, Nat.le_trans hg.2 hRs⟩) hC hq fin
theorem st_objinit (X : CTX p R s m args co nL mc own Ts cc) {idx : Nat} {o : Int} (ho : o ≠ -1) (h1 : Cond.methodLink own idx Lib.objectInit ∈ Tb) (h2 : Cond.instanceMethod Lib.objectInit ∈ Tb) (h3 : Cond.code Lib.objectInit ⟨#[0xb1]⟩ 1 none ∈ Tb) (hR1 : 1 ≤ R.frames) (hR2 : 200 ≤ R.locals) (hct : cats rest ≤ 8) (hd : decode cc pc = .ok (.invokespecial idx, 3))
    (hk : WW D B0 sA p l en R s m args below meth co Qf nL mc (pc + 3, ls, rest, V, S, g)) : WW D B0 sA p l en R s m args below meth co Qf nL mc (pc, ls, (2, o) :: rest, V, S, g) := by
  intro lsM H locs hC hP hL hq g1 g2
  obtain ⟨hx, hb, hml, hown, hts, hTb, hRc, hRs⟩ := X
  refine W.objInit hx hb hown (hts _ (hTb _ h1)) (hts _ (hTb _ h2)) (hts _ (hTb _ h3)) (g := F0 m pc lsM (toV sA (2, o) :: rest.map (toV sA))) (a := toA sA o) (rest := rest.map (toV sA)) rfl (by rw [hml]; exact hL.mem) (by rw [toV_refA ho]) hd hR1 ?_ (hk lsM H locs hC hP hL hq g1 g2)
  have h4 := cats_eq sA rest
  show 2 * 0 + _ + 12 ≤ R.locals
  omega
theorem st_iret (X : CTX p R s m args co nL mc own Ts cc) {x : Int} {ty : FieldType} (hlocks : meth.locks = false) (hr : meth.sig.returnType = some ty) (hn : narrow ty (.int (i32 x)) = .int (i32 x)) (hd : decode cc pc = .ok (.ireturn, 1)) :
    WW D B0 sA p l en R s m args below meth co (MQ below (PostM D B0 sA (some (0, x), V, S)) args s mc.1 mc.2 (fun q => B0 ≤ q)) nL mc (pc, ls, [(0, x)], V, S, g) := by
  intro lsM H locs hC hP hL hq g1 g2
  have hP : PPx D B0 sA s V S H := hP
  refine W.widen g1 g2 ?_
  exact W.zret (v := i32 x) X.1 X.2.1 hr hn (fun t ht hW => ⟨rfl, by rw [ht]; exact hC.warm hW, by rw [ht]; exact hP.moved hW.alike⟩) hq hd hlocks
theorem st_lret (X : CTX p R s m args co nL mc own Ts cc) {x : Int} (hlocks : meth.locks = false) (hr : meth.sig.returnType = some .long) (hd : decode cc pc = .ok (.lreturn, 1)) :
    WW D B0 sA p l en R s m args below meth co (MQ below (PostM D B0 sA (some (1, x), V, S)) args s mc.1 mc.2 (fun q => B0 ≤ q)) nL mc (pc, ls, [(1, x)], V, S, g) := by
  intro lsM H locs hC hP hL hq g1 g2
  have hP : PPx D B0 sA s V S H := hP
  refine W.widen g1 g2 ?_
  exact W.lret (v := i64 x) X.1 X.2.1 hr (fun t ht hW => ⟨rfl, by rw [ht]; exact hC.warm hW, by rw [ht]; exact hP.moved hW.alike⟩) hq hd hlocks
theorem st_aret (X : CTX p R s m args co nL mc own Ts cc) {x : Int} {ty : FieldType} (hlocks : meth.locks = false) (hr : meth.sig.returnType = some ty) (hrt : (∃ n, ty = .object n) ∨ ∃ t, ty = .array t) (hd : decode cc pc = .ok (.areturn, 1)) :
    WW D B0 sA p l en R s m args below meth co (MQ below (PostM D B0 sA (some (2, x), V, S)) args s mc.1 mc.2 (fun q => B0 ≤ q)) nL mc (pc, ls, [(2, x)], V, S, g) := by
  intro lsM H locs hC hP hL hq g1 g2
  have hP : PPx D B0 sA s V S H := hP
  refine W.widen g1 g2 ?_
  refine W.aret (v := toV sA (2, x)) X.1 X.2.1 hr hrt ?_ (fun t ht hW => ⟨rfl, by rw [ht]; exact hC.warm hW, by rw [ht]; exact hP.moved hW.alike⟩) hq hd hlocks
  by_cases h : x = -1
  · rw [h]; exact Or.inl rfl
  · exact Or.inr ⟨_, toV_refA h⟩
theorem st_vret (X : CTX p R s m args co nL mc own Ts cc) (hlocks : meth.locks = false) (hr : meth.sig.returnType = none) (hd : decode cc pc = .ok (.return_, 1)) :
    WW D B0 sA p l en R s m args below meth co (MQ below (PostM D B0 sA (none, V, S)) args s mc.1 mc.2 (fun q => B0 ≤ q)) nL mc (pc, ls, [], V, S, g) := by
  intro lsM H locs hC hP hL hq g1 g2
  have hP : PPx D B0 sA s V S H := hP
  refine W.widen g1 g2 ?_
  exact W.vret X.1 X.2.1 hr (fun t ht hW => ⟨rfl, by rw [ht]; exact hC.warm hW, by rw [ht]; exact hP.moved hW.alike⟩) hq hd hlocks
end CB
