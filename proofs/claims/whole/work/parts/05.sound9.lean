/-! the step: what an entry's act asks is enough for the machine -/
theorem str_cls : (mnm 9001).cls = "java/lang/String" ∧ (mnm 9002).cls = "java/lang/String" := by decide +kernel
section SP
variable {D : va_G} {B0 : Nat} {sA : Nat → Nat} {p : Program} {l : Launch} {en : Env} {R : Room} {s : State} {m : MethodId} {args : Array Value} {below : List Frame} {meth : Method} {co : Code} {Qf : State → Prop} {nL : Nat} {mc : Cnt}
variable {Ts : List Cond} {cc : ByteArray} {pc : Nat} {ls : List XV} {V : Mem} {S : Shp} {g : Cnt}
theorem ww_g {c : Cfg} (h : c.2.2.2.2.2.1 ≤ mc.1 ∧ c.2.2.2.2.2.2 ≤ mc.2 → WW D B0 sA p l en R s m args below meth co Qf nL mc c) : WW D B0 sA p l en R s m args below meth co Qf nL mc c :=
  fun lsM H locs hC hP hL hq g1 g2 => h ⟨g1, g2⟩ lsM H locs hC hP hL hq g1 g2
theorem ext_none {y : Nat} {As : List XV} {V : Mem} {S : Shp} {w : Res} (hy : y < 9000) (h : extR y As V S w) : False := by
  unfold extR at h
  split at h
  · omega
  · omega
  · exact h
theorem run_rcv {d y : Nat} {A : List XV} {w : Res} (h : Run MM d y A V S w) (hy : y < 9000) (hf : (MM y).2.2.2.2 = true) (hc : (MM y).2.2.2.1 < 13) : ∃ o As, A = (2, o) :: As ∧ S.1 o = ((MM y).2.2.2.1 : Int) := by
  cases d with
  | zero => exact h.elim
  | succ d =>
    rcases h with h | ⟨h, -⟩
    · exact (ext_none hy h).elim
    · replace h := h.2
      split at h
      · rename_i e; rw [hf] at e; cases e
      · rename_i e; exact ⟨_, _, rfl, h⟩
      · exact h.elim
theorem obj_recv {o : Int} {ci : Nat} (hci : ci < 13) (ho : S.1 o = (ci : Int)) : ∀ H, CX D B0 sA s H → PPx D B0 sA s V S H → o ≠ -1 ∧ ∃ cell : Cell, H[toA sA o]? = some cell ∧ cell.vm.isStatics = false ∧ s.vm.findClass (clN ci) = some cell.cls := by
  intro H hC hP
  obtain ⟨k1, k2, cell, q1, q2, q3, q4⟩ := (hP.2.2.2 o).1 ci ho hci
  refine ⟨by omega, cell, ?_, by rw [q3]; rfl, by rw [q2]; exact (hC.1 ci _ (vw_at ci hci)).2.1⟩
  unfold toA
  rw [if_pos k1]
  exact q1
theorem str_recv {o : Int} (ho : S.1 o = 130) : ∀ H, CX D B0 sA s H → PPx D B0 sA s V S H → o ≠ -1 ∧ ∃ cell : Cell, H[toA sA o]? = some cell ∧ cell.vm.isStatics = false ∧ s.vm.findClass "java/lang/String" = some cell.cls := by
  intro H hC hP
  obtain ⟨k1, k2, k3, k4, ⟨cell, q1, q2, q3, q4⟩, -⟩ := (hP.2.2.2 o).2.2.2.1 ho
  exact ⟨by omega, cell, q1, q2, q3⟩
theorem mm_big {y : Nat} (hy : 9000 < y) : MM y = dInf := by
  have h : ∀ k, k < 9000 → Nat.beq y k = false := fun k hk => by
    cases h : Nat.beq y k with
    | false => rfl
    | true => have := Nat.eq_of_beq_eq_true h; omega
  have h2 : ∀ k, k < 9000 → Nat.blt y k = false := fun k hk => by
    cases h : Nat.blt y k with
    | false => rfl
    | true => have := Nat.blt_eq.mp h; omega
  unfold MM
  simp [h2, h]
theorem run_big {d y : Nat} {A : List XV} {w : Res} (hy : 9000 < y) (h : Run MM (d + 1) y A V S w) : extR y A V S w := by
  rcases h with h | ⟨-, n, h⟩
  · exact h
  · rw [mm_big hy] at h
    cases n with
    | zero => exact h.elim
    | succ n => exact (h : False).elim
theorem virt_recv {d y : Nat} {A : List XV} {w : Res} (h : Run MM d y A V S w) (hv : 9000 < y ∨ ((MM y).2.2.2.2 = true ∧ (MM y).2.2.2.1 < 13 ∧ clN (MM y).2.2.2.1 = (mnm y).cls)) (hlt : y ≤ 9000 → y < 9000) :
    ∃ o As, A = (2, o) :: As ∧ ∀ H, CX D B0 sA s H → PPx D B0 sA s V S H → o ≠ -1 ∧ ∃ cell : Cell, H[toA sA o]? = some cell ∧ cell.vm.isStatics = false ∧ s.vm.findClass (mnm y).cls = some cell.cls := by
  by_cases hy : 9000 < y
  · cases d with
    | zero => exact h.elim
    | succ d =>
      have h := run_big hy h
      unfold extR at h
      split at h
      · obtain ⟨o, rfl, h, -⟩ := h
        exact ⟨o, [], rfl, by rw [str_cls.1]; exact str_recv h⟩
      · obtain ⟨o, i, rfl, h, -⟩ := h
        exact ⟨o, _, rfl, by rw [str_cls.2]; exact str_recv h⟩
      · exact h.elim
  · rcases hv with hv | ⟨h1, h2, h3⟩
    · exact absurd hv hy
    · obtain ⟨o, As, e, ho⟩ := run_rcv h (hlt (by omega)) h1 h2
      exact ⟨o, As, e, by rw [← h3]; exact obj_recv h2 ho⟩
/-- what a call's act asks -/
theorem exI_inv {d : Nat} {next : Cfg → Prop} {ret : Res → Prop} {cost : Cnt} {nx a n t : Nat} {st : List XV} (hg : g.1 ≤ mc.1 ∧ g.2 ≤ mc.2) (h : go (fun q nx => c1R (Run MM d) nx q) (fun q nx => c0R (Run MM d) nx q) next ret (exI mc cost nx a n t ls st V S g)) :
    n ≤ st.length ∧ cats (st.drop n) ≤ 8 ∧ ∃ w, Run MM d a ((st.take n).reverse) V S w ∧ (g.1 + cost.1 ≤ mc.1 ∧ g.2 + cost.2 ≤ mc.2) ∧ next (nx, ls, w.1.toList ++ st.drop n, w.2.1, w.2.2, (g.1 + cost.1, g.2 + cost.2)) := by
  unfold exI at h
  cases h1 : (Nat.ble n st.length && Nat.ble (cats (st.drop n)) 8) with
  | false => rw [h1] at h; exact h.elim
  | true =>
    rw [h1] at h
    rw [Bool.and_eq_true] at h1
    refine ⟨Nat.le_of_ble_eq_true h1.1, Nat.le_of_ble_eq_true h1.2, ?_⟩
    cases h2 : (Nat.beq cost.1 0 && Nat.beq cost.2 0) with
    | false =>
      rw [h2] at h
      simp only [cond_true, cond_false] at h
      split at h
      · obtain ⟨hp, V1, S1, hR, h⟩ := h
        exact ⟨_, hR, hp, h⟩
      · obtain ⟨hp, x, V1, S1, hR, h⟩ := h
        exact ⟨_, hR, hp, h⟩
    | true =>
      rw [h2] at h
      rw [Bool.and_eq_true] at h2
      have e1 : cost.1 = 0 := Nat.eq_of_beq_eq_true h2.1
      have e2 : cost.2 = 0 := Nat.eq_of_beq_eq_true h2.2
      rw [e1, e2]
      simp only [cond_true] at h
      split at h
      · obtain ⟨V1, S1, hR, h⟩ := h
        exact ⟨_, hR, hg, h⟩
      · obtain ⟨x, V1, S1, hR, h⟩ := h
        exact ⟨_, hR, hg, h⟩
theorem ref_ok {ty : FieldType} (h : ftg ty = 2) : (∀ x : Int, narrow ty (toF sA 2 x) = toF sA 2 x) ∧ ∀ x : Int, fits ty (toF sA 2 x) = true := by
  cases ty <;> first
    | exact absurd h (by decide)
    | (refine ⟨fun x => ?_, fun x => ?_⟩ <;> (show _ = _; unfold toF; simp only; cases rfo sA x <;> rfl))

theorem blt_of {a b : Nat} (h : Nat.blt a b = true) : a < b := Nat.blt_eq.mp h
theorem beq_of {a b : Nat} (h : Nat.beq a b = true) : a = b := Nat.eq_of_beq_eq_true h
theorem len_pred {st : List XV} {n : Nat} {o : Int} {As : List XV} (hn : n ≤ st.length) (e : (st.take n).reverse = (2, o) :: As) : As.length = n - 1 ∧ st = As.reverse ++ (2, o) :: st.drop n := by
  have h1 : (st.take n).reverse.length = n := by rw [List.length_reverse, List.length_take]; omega
  rw [e, List.length_cons] at h1
  refine ⟨by omega, ?_⟩
  have h2 : st.take n = As.reverse ++ [(2, o)] := by
    have h3 := congrArg List.reverse e
    rw [List.reverse_reverse, List.reverse_cons] at h3
    exact h3
  calc st = st.take n ++ st.drop n := (List.take_append_drop n st).symm
    _ = _ := by rw [h2, List.append_assoc]; rfl
theorem fit_bool {sA : Nat → Nat} {x : Int} (h : s32 x = 0 ∨ s32 x = 1) : fits .boolean (toF sA 0 x) = true := by
  have e : i32 x = 0 ∨ i32 x = 1 := by
    rcases h with h | h
    · exact Or.inl ((i32_0 x).mpr h)
    · exact Or.inr (Int32.toInt_inj.mp h)
  show fits .boolean (.int (i32 x)) = true
  rcases e with e | e <;> rw [e] <;> rfl
theorem k_100 : kty ((100 : Nat) : Int) = some .int := by decide
theorem k_101 : kty ((101 : Nat) : Int) = some .byte := by decide
theorem k_102 : kty ((102 : Nat) : Int) = some .boolean := by decide
theorem k_103 : kty ((103 : Nat) : Int) = some .long := by decide
/-- a constant object's field or array: the tags -/
theorem tg_read {t : Nat} {ty : FieldType} (h : tgB t ty = true) : (∀ x : Int, toF sA (match t with | 1 => 1 | 2 => 2 | _ => 0) x = toF sA (ftg ty) x) := by
  intro x
  match t, h with
  | 0, h => have h : ty = .int := of_decide_eq_true h; subst h; rfl
  | 1, h => have h : ty = .long := of_decide_eq_true h; subst h; rfl
  | 2, h => have h : ftg ty = 2 := beq_of h; show toF sA 2 x = _; rw [h]
  | 3, h => have h : ty = .boolean := of_decide_eq_true h; subst h; rfl
  | _ + 4, h => cases h
set_option maxHeartbeats 4000000 in
theorem step {d : Nat} {oc : Nat} {rt : Option FieldType} {ini : Bool} {e : Ent} {st : List XV} {next : Cfg → Prop} {ret : Res → Prop}
    (X : CTX p R s m args co nL mc (clN oc) Ts cc) (hR1 : d + 7 ≤ R.frames) (hR2 : 200 * (d + 7) ≤ R.locals) (hini : ini = true → meth.name = "<init>")
    (hE : okX oc rt nL ini pc e = true) (hd : decode cc pc = .ok (e.1, e.2.1 - pc))
    (hn : ∀ c', next c' → WW D B0 sA p l en R s m args below meth co Qf nL mc c')
    (hrI : ∀ (ls : List XV) (x : Int) (V : Mem) (S : Shp) (g : Cnt), decode cc pc = .ok (.ireturn, 1) → (rt = some .int ∨ (rt = some .boolean ∧ (s32 x = 0 ∨ s32 x = 1))) → ret (some (0, x), V, S) → WW D B0 sA p l en R s m args below meth co Qf nL mc (pc, ls, [(0, x)], V, S, g))
    (hrL : ∀ (ls : List XV) (x : Int) (V : Mem) (S : Shp) (g : Cnt), decode cc pc = .ok (.lreturn, 1) → rt = some .long → ret (some (1, x), V, S) → WW D B0 sA p l en R s m args below meth co Qf nL mc (pc, ls, [(1, x)], V, S, g))
    (hrA : ∀ (ls : List XV) (x : Int) (V : Mem) (S : Shp) (g : Cnt), decode cc pc = .ok (.areturn, 1) → ((∃ n, rt = some (.object n)) ∨ ∃ t, rt = some (.array t)) → ret (some (2, x), V, S) → WW D B0 sA p l en R s m args below meth co Qf nL mc (pc, ls, [(2, x)], V, S, g))
    (hrV : ∀ (ls : List XV) (V : Mem) (S : Shp) (g : Cnt), decode cc pc = .ok (.return_, 1) → rt = none → ret (none, V, S) → WW D B0 sA p l en R s m args below meth co Qf nL mc (pc, ls, [], V, S, g))
    (hcall : ∀ (y n k : Nat) (As : List XV) (V : Mem) (S : Shp) (w : Res), YT.any (fun q => Nat.beq q.1 y && Nat.beq q.2.1 n && Nat.beq q.2.2.1 k) = true → Run MM d y As V S w → METS D B0 sA l d y As V S w)
    (h : go (fun q nx => c1R (Run MM d) nx q) (fun q nx => c0R (Run MM d) nx q) next ret (ex mc e (pc, ls, st, V, S, g))) : WW D B0 sA p l en R s m args below meth co Qf nL mc (pc, ls, st, V, S, g) := by
  obtain ⟨i, nx, a, b, t, dead, sw⟩ := e
  refine ww_g fun hg => ?_
  refine st_forget dead ?_
  cases i
  case iconst n =>
    obtain rfl : nx = pc + 1 := beq_of hE
    rw [Nat.add_sub_cancel_left] at hd
    exact st_iconst X hd (hn _ h)
  case bipush n =>
    have hE : (Nat.beq nx (pc + 2) && decide ((Int8.ofInt n).toInt32 = Int32.ofInt b)) = true := hE
    rw [Bool.and_eq_true] at hE
    obtain ⟨h1, h2⟩ := hE
    obtain rfl : nx = pc + 2 := beq_of h1
    rw [Nat.add_sub_cancel_left] at hd
    exact st_bipush X (of_decide_eq_true h2) hd (hn _ h)
  case sipush n =>
    have hE : (Nat.beq nx (pc + 3) && decide ((Int16.ofInt n).toInt32 = Int32.ofInt b)) = true := hE
    rw [Bool.and_eq_true] at hE
    obtain ⟨h1, h2⟩ := hE
    obtain rfl : nx = pc + 3 := beq_of h1
    rw [Nat.add_sub_cancel_left] at hd
    exact st_sipush X (of_decide_eq_true h2) hd (hn _ h)
  case lconst n =>
    obtain rfl : nx = pc + 1 := beq_of hE
    rw [Nat.add_sub_cancel_left] at hd
    exact st_lconst X hd (hn _ h)
  case aconst_null =>
    obtain rfl : nx = pc + 1 := beq_of hE
    rw [Nat.add_sub_cancel_left] at hd
    exact st_null X hd (hn _ h)
  case ldc n =>
    simp only [okX, Bool.and_eq_true] at hE
    obtain ⟨h1, h2⟩ := hE
    obtain rfl : nx = pc + 2 := beq_of h1
    rw [Nat.add_sub_cancel_left] at hd
    split at h2
    · exact st_ldc X (CST_at h2) hd (hn _ h)
    · simp only [Bool.and_eq_true, decide_eq_true_eq] at h2
      obtain ⟨⟨h3, h4⟩, h5⟩ := h2
      cases h6 : strTx[(-4 - b).toNat]? with
      | none => rw [h6] at h5; cases h5
      | some q =>
        rw [h6] at h5
        obtain ⟨q1, q2⟩ := q
        have h5 : q1 = n := beq_of h5
        subst h5
        have e : b = -4 - (((-4 - b).toNat : Nat) : Int) := by omega
        have h9 := hn _ h
        rw [e] at h9
        exact st_ldcs X h6 (by rw [beq_of h3]; rfl) hd h9
    · cases h2
  case ldc_w n =>
    simp only [okX, Bool.and_eq_true] at hE
    obtain ⟨h1, h2⟩ := hE
    obtain rfl : nx = pc + 3 := beq_of h1
    rw [Nat.add_sub_cancel_left] at hd
    exact st_ldcw X (CST_at (by simpa only [Bool.and_eq_true] using h2)) hd (hn _ h)
  case ldc2_w n =>
    simp only [okX, Bool.and_eq_true] at hE
    obtain ⟨h1, h2⟩ := hE
    obtain rfl : nx = pc + 3 := beq_of h1
    rw [Nat.add_sub_cancel_left] at hd
    exact st_ldc2w X (CSL_at (by simpa only [Bool.and_eq_true] using h2)) hd (hn _ h)
  case iload n =>
    obtain rfl : nx = pc + 2 := beq_of hE
    rw [Nat.add_sub_cancel_left] at hd
    simp only [ex] at h
    split at h
    · rename_i hl
      exact st_iload X hl hd (hn _ h)
    · exact h.elim
  case iload_n n =>
    obtain rfl : nx = pc + 1 := beq_of hE
    rw [Nat.add_sub_cancel_left] at hd
    simp only [ex] at h
    split at h
    · rename_i hl
      exact st_iload_n X hl hd (hn _ h)
    · exact h.elim
  case lload n =>
    obtain rfl : nx = pc + 2 := beq_of hE
    rw [Nat.add_sub_cancel_left] at hd
    simp only [ex] at h
    split at h
    · rename_i hl
      exact st_lload X hl hd (hn _ h)
    · exact h.elim
  case lload_n n =>
    obtain rfl : nx = pc + 1 := beq_of hE
    rw [Nat.add_sub_cancel_left] at hd
    simp only [ex] at h
    split at h
    · rename_i hl
      exact st_lload_n X hl hd (hn _ h)
    · exact h.elim
  case aload n =>
    obtain rfl : nx = pc + 2 := beq_of hE
    rw [Nat.add_sub_cancel_left] at hd
    simp only [ex] at h
    split at h
    · rename_i hl
      exact st_aload X hl hd (hn _ h)
    · exact h.elim
  case aload_n n =>
    obtain rfl : nx = pc + 1 := beq_of hE
    rw [Nat.add_sub_cancel_left] at hd
    simp only [ex] at h
    split at h
    · rename_i hl
      exact st_aload_n X hl hd (hn _ h)
    · exact h.elim
  case istore n =>
    have hE : (Nat.beq nx (pc + 2) && Nat.blt (n) nL) = true := hE
    rw [Bool.and_eq_true] at hE
    obtain ⟨h1, h2⟩ := hE
    obtain rfl : nx = pc + 2 := beq_of h1
    rw [Nat.add_sub_cancel_left] at hd
    simp only [ex] at h
    split at h
    · exact st_istore X (blt_of h2) hd (hn _ h)
    · exact h.elim
  case istore_n n =>
    have hE : (Nat.beq nx (pc + 1) && Nat.blt (n.val) nL) = true := hE
    rw [Bool.and_eq_true] at hE
    obtain ⟨h1, h2⟩ := hE
    obtain rfl : nx = pc + 1 := beq_of h1
    rw [Nat.add_sub_cancel_left] at hd
    simp only [ex] at h
    split at h
    · exact st_istore_n X (blt_of h2) hd (hn _ h)
    · exact h.elim
  case lstore n =>
    have hE : (Nat.beq nx (pc + 2) && Nat.blt (n + 1) nL) = true := hE
    rw [Bool.and_eq_true] at hE
    obtain ⟨h1, h2⟩ := hE
    obtain rfl : nx = pc + 2 := beq_of h1
    rw [Nat.add_sub_cancel_left] at hd
    simp only [ex] at h
    split at h
    · exact st_lstore X (blt_of h2) hd (hn _ h)
    · exact h.elim
  case lstore_n n =>
    have hE : (Nat.beq nx (pc + 1) && Nat.blt (n.val + 1) nL) = true := hE
    rw [Bool.and_eq_true] at hE
    obtain ⟨h1, h2⟩ := hE
    obtain rfl : nx = pc + 1 := beq_of h1
    rw [Nat.add_sub_cancel_left] at hd
    simp only [ex] at h
    split at h
    · exact st_lstore_n X (blt_of h2) hd (hn _ h)
    · exact h.elim
  case astore n =>
    have hE : (Nat.beq nx (pc + 2) && Nat.blt (n) nL) = true := hE
    rw [Bool.and_eq_true] at hE
    obtain ⟨h1, h2⟩ := hE
    obtain rfl : nx = pc + 2 := beq_of h1
    rw [Nat.add_sub_cancel_left] at hd
    simp only [ex] at h
    split at h
    · exact st_astore X (blt_of h2) hd (hn _ h)
    · exact h.elim
  case astore_n n =>
    have hE : (Nat.beq nx (pc + 1) && Nat.blt (n.val) nL) = true := hE
    rw [Bool.and_eq_true] at hE
    obtain ⟨h1, h2⟩ := hE
    obtain rfl : nx = pc + 1 := beq_of h1
    rw [Nat.add_sub_cancel_left] at hd
    simp only [ex] at h
    split at h
    · exact st_astore_n X (blt_of h2) hd (hn _ h)
    · exact h.elim
  case iinc n k =>
    have hE : (Nat.beq nx (pc + 3) && Nat.blt n nL) = true := hE
    rw [Bool.and_eq_true] at hE
    obtain ⟨h1, h2⟩ := hE
    obtain rfl : nx = pc + 3 := beq_of h1
    rw [Nat.add_sub_cancel_left] at hd
    simp only [ex] at h
    split at h
    · rename_i hl
      exact st_iinc X (blt_of h2) hl hd (hn _ h)
    · exact h.elim
  case iadd =>
    obtain rfl : nx = pc + 1 := beq_of hE
    rw [Nat.add_sub_cancel_left] at hd
    simp only [ex] at h
    split at h
    · exact st_iadd X hd (hn _ h)
    · exact h.elim
  case isub =>
    obtain rfl : nx = pc + 1 := beq_of hE
    rw [Nat.add_sub_cancel_left] at hd
    simp only [ex] at h
    split at h
    · exact st_isub X hd (hn _ h)
    · exact h.elim
  case imul =>
    obtain rfl : nx = pc + 1 := beq_of hE
    rw [Nat.add_sub_cancel_left] at hd
    simp only [ex] at h
    split at h
    · exact st_imul X hd (hn _ h)
    · exact h.elim
  case iand =>
    obtain rfl : nx = pc + 1 := beq_of hE
    rw [Nat.add_sub_cancel_left] at hd
    simp only [ex] at h
    split at h
    · exact st_iand X hd (hn _ h)
    · exact h.elim
  case ior =>
    obtain rfl : nx = pc + 1 := beq_of hE
    rw [Nat.add_sub_cancel_left] at hd
    simp only [ex] at h
    split at h
    · exact st_ior X hd (hn _ h)
    · exact h.elim
  case ixor =>
    obtain rfl : nx = pc + 1 := beq_of hE
    rw [Nat.add_sub_cancel_left] at hd
    simp only [ex] at h
    split at h
    · exact st_ixor X hd (hn _ h)
    · exact h.elim
  case ishl =>
    obtain rfl : nx = pc + 1 := beq_of hE
    rw [Nat.add_sub_cancel_left] at hd
    simp only [ex] at h
    split at h
    · exact st_ishl X hd (hn _ h)
    · exact h.elim
  case ishr =>
    obtain rfl : nx = pc + 1 := beq_of hE
    rw [Nat.add_sub_cancel_left] at hd
    simp only [ex] at h
    split at h
    · exact st_ishr X hd (hn _ h)
    · exact h.elim
  case iushr =>
    obtain rfl : nx = pc + 1 := beq_of hE
    rw [Nat.add_sub_cancel_left] at hd
    simp only [ex] at h
    split at h
    · exact st_iushr X hd (hn _ h)
    · exact h.elim
  case ladd =>
    obtain rfl : nx = pc + 1 := beq_of hE
    rw [Nat.add_sub_cancel_left] at hd
    simp only [ex] at h
    split at h
    · exact st_ladd X hd (hn _ h)
    · exact h.elim
  case lsub =>
    obtain rfl : nx = pc + 1 := beq_of hE
    rw [Nat.add_sub_cancel_left] at hd
    simp only [ex] at h
    split at h
    · exact st_lsub X hd (hn _ h)
    · exact h.elim
  case lmul =>
    obtain rfl : nx = pc + 1 := beq_of hE
    rw [Nat.add_sub_cancel_left] at hd
    simp only [ex] at h
    split at h
    · exact st_lmul X hd (hn _ h)
    · exact h.elim
  case land =>
    obtain rfl : nx = pc + 1 := beq_of hE
    rw [Nat.add_sub_cancel_left] at hd
    simp only [ex] at h
    split at h
    · exact st_land X hd (hn _ h)
    · exact h.elim
  case lor =>
    obtain rfl : nx = pc + 1 := beq_of hE
    rw [Nat.add_sub_cancel_left] at hd
    simp only [ex] at h
    split at h
    · exact st_lor X hd (hn _ h)
    · exact h.elim
  case lxor =>
    obtain rfl : nx = pc + 1 := beq_of hE
    rw [Nat.add_sub_cancel_left] at hd
    simp only [ex] at h
    split at h
    · exact st_lxor X hd (hn _ h)
    · exact h.elim
  case lshl =>
    obtain rfl : nx = pc + 1 := beq_of hE
    rw [Nat.add_sub_cancel_left] at hd
    simp only [ex] at h
    split at h
    · exact st_lshl X hd (hn _ h)
    · exact h.elim
  case lshr =>
    obtain rfl : nx = pc + 1 := beq_of hE
    rw [Nat.add_sub_cancel_left] at hd
    simp only [ex] at h
    split at h
    · exact st_lshr X hd (hn _ h)
    · exact h.elim
  case lushr =>
    obtain rfl : nx = pc + 1 := beq_of hE
    rw [Nat.add_sub_cancel_left] at hd
    simp only [ex] at h
    split at h
    · exact st_lushr X hd (hn _ h)
    · exact h.elim
  case lcmp =>
    obtain rfl : nx = pc + 1 := beq_of hE
    rw [Nat.add_sub_cancel_left] at hd
    simp only [ex] at h
    split at h
    · exact st_lcmp X hd (hn _ h)
    · exact h.elim
  case ineg =>
    obtain rfl : nx = pc + 1 := beq_of hE
    rw [Nat.add_sub_cancel_left] at hd
    simp only [ex] at h
    split at h
    · exact st_ineg X hd (hn _ h)
    · exact h.elim
  case i2l =>
    obtain rfl : nx = pc + 1 := beq_of hE
    rw [Nat.add_sub_cancel_left] at hd
    simp only [ex] at h
    split at h
    · exact st_i2l X hd (hn _ h)
    · exact h.elim
  case l2i =>
    obtain rfl : nx = pc + 1 := beq_of hE
    rw [Nat.add_sub_cancel_left] at hd
    simp only [ex] at h
    split at h
    · exact st_l2i X hd (hn _ h)
    · exact h.elim
  case i2b =>
    obtain rfl : nx = pc + 1 := beq_of hE
    rw [Nat.add_sub_cancel_left] at hd
    simp only [ex] at h
    split at h
    · exact st_i2b X hd (hn _ h)
    · exact h.elim
  case i2s =>
    obtain rfl : nx = pc + 1 := beq_of hE
    rw [Nat.add_sub_cancel_left] at hd
    simp only [ex] at h
    split at h
    · exact st_i2s X hd (hn _ h)
    · exact h.elim
  case idiv =>
    obtain rfl : nx = pc + 1 := beq_of hE
    rw [Nat.add_sub_cancel_left] at hd
    simp only [ex] at h
    split at h
    · exact st_idiv X h.1 hd (hn _ h.2)
    · exact h.elim
  case irem =>
    obtain rfl : nx = pc + 1 := beq_of hE
    rw [Nat.add_sub_cancel_left] at hd
    simp only [ex] at h
    split at h
    · exact st_irem X h.1 hd (hn _ h.2)
    · exact h.elim
  case ldiv =>
    obtain rfl : nx = pc + 1 := beq_of hE
    rw [Nat.add_sub_cancel_left] at hd
    simp only [ex] at h
    split at h
    · exact st_ldiv X h.1 hd (hn _ h.2)
    · exact h.elim
  case lrem =>
    obtain rfl : nx = pc + 1 := beq_of hE
    rw [Nat.add_sub_cancel_left] at hd
    simp only [ex] at h
    split at h
    · exact st_lrem X h.1 hd (hn _ h.2)
    · exact h.elim
  case dup =>
    obtain rfl : nx = pc + 1 := beq_of hE
    rw [Nat.add_sub_cancel_left] at hd
    simp only [ex] at h
    split at h
    · rename_i t0 x r
      cases h1 : Nat.beq t0 1 with
      | true => rw [h1] at h; exact h.elim
      | false => rw [h1] at h; exact st_dup X (fun z => by rw [z] at h1; cases h1) hd (hn _ h)
    · exact h.elim
  case pop =>
    obtain rfl : nx = pc + 1 := beq_of hE
    rw [Nat.add_sub_cancel_left] at hd
    simp only [ex] at h
    split at h
    · rename_i t0 x r
      cases h1 : Nat.beq t0 1 with
      | true => rw [h1] at h; exact h.elim
      | false => rw [h1] at h; exact st_pop X (fun z => by rw [z] at h1; cases h1) hd (hn _ h)
    · exact h.elim
  case dup2 =>
    obtain rfl : nx = pc + 1 := beq_of hE
    rw [Nat.add_sub_cancel_left] at hd
    simp only [ex] at h
    split at h
    · exact st_dup2a X hd (hn _ h)
    · rename_i t1 y t0 x r hne
      cases h1 : Nat.beq t0 1 with
      | true => rw [h1] at h; exact h.elim
      | false => rw [h1] at h; exact st_dup2b X (fun z => hne z) (fun z => by rw [z] at h1; cases h1) hd (hn _ h)
    · exact h.elim
  case dup_x1 =>
    obtain rfl : nx = pc + 1 := beq_of hE
    rw [Nat.add_sub_cancel_left] at hd
    simp only [ex] at h
    split at h
    · rename_i t1 y t0 x r
      cases h1 : Nat.beq t0 1 with
      | true => rw [h1] at h; exact h.elim
      | false =>
        rw [h1] at h
        cases h2 : Nat.beq t1 1 with
        | true => rw [h2] at h; exact h.elim
        | false => rw [h2] at h; exact st_dup_x1 X (fun z => by rw [z] at h2; cases h2) (fun z => by rw [z] at h1; cases h1) hd (hn _ h)
    · exact h.elim
  case ifCond cd off =>
    have hE : (Nat.beq nx (pc + 3) && decide ((pc : Int) + off = (a : Int))) = true := hE
    rw [Bool.and_eq_true] at hE
    obtain ⟨h1, h2⟩ := hE
    obtain rfl : nx = pc + 3 := beq_of h1
    rw [Nat.add_sub_cancel_left] at hd
    have ha := of_decide_eq_true h2
    simp only [ex] at h
    split at h
    · cases cd
      case eq => exact st_if_eq X ha hd ⟨fun z => hn _ (h.1 z), fun z => hn _ (h.2 z)⟩
      case ne => exact st_if_ne X ha hd ⟨fun z => hn _ (h.1 z), fun z => hn _ (h.2 z)⟩
      case lt => exact st_if_lt X ha hd ⟨fun z => hn _ (h.1 z), fun z => hn _ (h.2 z)⟩
      case ge => exact st_if_ge X ha hd ⟨fun z => hn _ (h.1 z), fun z => hn _ (h.2 z)⟩
      case gt => exact st_if_gt X ha hd ⟨fun z => hn _ (h.1 z), fun z => hn _ (h.2 z)⟩
      case le => exact st_if_le X ha hd ⟨fun z => hn _ (h.1 z), fun z => hn _ (h.2 z)⟩
    · exact h.elim
  case if_icmp cd off =>
    have hE : (Nat.beq nx (pc + 3) && decide ((pc : Int) + off = (a : Int))) = true := hE
    rw [Bool.and_eq_true] at hE
    obtain ⟨h1, h2⟩ := hE
    obtain rfl : nx = pc + 3 := beq_of h1
    rw [Nat.add_sub_cancel_left] at hd
    have ha := of_decide_eq_true h2
    simp only [ex] at h
    split at h
    · cases cd
      case eq => exact st_icmp_eq X ha hd ⟨fun z => hn _ (h.1 z), fun z => hn _ (h.2 z)⟩
      case ne => exact st_icmp_ne X ha hd ⟨fun z => hn _ (h.1 z), fun z => hn _ (h.2 z)⟩
      case lt => exact st_icmp_lt X ha hd ⟨fun z => hn _ (h.1 z), fun z => hn _ (h.2 z)⟩
      case ge => exact st_icmp_ge X ha hd ⟨fun z => hn _ (h.1 z), fun z => hn _ (h.2 z)⟩
      case gt => exact st_icmp_gt X ha hd ⟨fun z => hn _ (h.1 z), fun z => hn _ (h.2 z)⟩
      case le => exact st_icmp_le X ha hd ⟨fun z => hn _ (h.1 z), fun z => hn _ (h.2 z)⟩
    · exact h.elim
  case if_acmp cd off =>
    have hE : (Nat.beq nx (pc + 3) && decide ((pc : Int) + off = (a : Int))) = true := hE
    rw [Bool.and_eq_true] at hE
    obtain ⟨h1, h2⟩ := hE
    obtain rfl : nx = pc + 3 := beq_of h1
    rw [Nat.add_sub_cancel_left] at hd
    have ha := of_decide_eq_true h2
    simp only [ex] at h
    split at h
    · cases cd
      case eq =>
        cases h9 : Nat.beq t 2 with
        | false => simp only [h9] at h; exact h.elim
        | true => simp only [h9] at h; exact st_acmp_eq X ha hd ⟨h.1, fun z => hn _ (h.2.1 z), fun z => hn _ (h.2.2 z)⟩
      case ne =>
        cases h9 : Nat.beq t 2 with
        | false => simp only [h9] at h; exact h.elim
        | true => simp only [h9] at h; exact st_acmp_ne X ha hd ⟨h.1, fun z => hn _ (h.2.1 z), fun z => hn _ (h.2.2 z)⟩
    · exact h.elim
  case ifnull off =>
    have hE : (Nat.beq nx (pc + 3) && decide ((pc : Int) + off = (a : Int))) = true := hE
    rw [Bool.and_eq_true] at hE
    obtain ⟨h1, h2⟩ := hE
    obtain rfl : nx = pc + 3 := beq_of h1
    rw [Nat.add_sub_cancel_left] at hd
    have ha := of_decide_eq_true h2
    simp only [ex] at h
    split at h
    · exact st_ifnull X ha hd ⟨fun z => hn _ (h.1 z), fun z => hn _ (h.2 z)⟩
    · exact h.elim
  case ifnonnull off =>
    have hE : (Nat.beq nx (pc + 3) && decide ((pc : Int) + off = (a : Int))) = true := hE
    rw [Bool.and_eq_true] at hE
    obtain ⟨h1, h2⟩ := hE
    obtain rfl : nx = pc + 3 := beq_of h1
    rw [Nat.add_sub_cancel_left] at hd
    have ha := of_decide_eq_true h2
    simp only [ex] at h
    split at h
    · exact st_ifnonnull X ha hd ⟨fun z => hn _ (h.1 z), fun z => hn _ (h.2 z)⟩
    · exact h.elim
  case goto off =>
    have hE : (Nat.beq nx (pc + 3) && decide ((pc : Int) + off = (a : Int))) = true := hE
    rw [Bool.and_eq_true] at hE
    obtain ⟨h1, h2⟩ := hE
    obtain rfl : nx = pc + 3 := beq_of h1
    rw [Nat.add_sub_cancel_left] at hd
    exact st_goto X (of_decide_eq_true h2) hd (hn _ h)
  case tableswitch dflt lo hi offs =>
    simp only [okX, Bool.and_eq_true, decide_eq_true_eq] at hE
    obtain ⟨⟨h1, h2⟩, h3⟩ := hE
    obtain ⟨h4, h5⟩ := tswB_at _ _ _ h3
    simp only [ex] at h
    split at h
    · exact st_tsw X hd h1 h4 h2 (fun j o q g1 g2 => by have := h5 j o q g1 g2; rw [Nat.zero_add] at this; exact this) (hn _ ((gosw_swt _ _ _ _).mp h))
    · exact h.elim
  case lookupswitch dflt ps =>
    simp only [okX, Bool.and_eq_true, decide_eq_true_eq] at hE
    obtain ⟨⟨h1, h2⟩, h3⟩ := hE
    simp only [ex] at h
    split at h
    · exact st_lsw X hd h1 h2 h3 (hn _ ((gosw_swt _ _ _ _).mp h))
    · exact h.elim
  case getfield n =>
    simp only [okX, okB, Bool.and_eq_true, decide_eq_true_eq] at hE
    obtain ⟨⟨h1, h2, h3⟩, h4⟩ := hE
    obtain rfl : nx = pc + 3 := beq_of h1
    rw [Nat.add_sub_cancel_left] at hd
    obtain ⟨f1, f2, f3⟩ := FLT_at (by simpa only [Bool.and_eq_true] using h2)
    have hb : b = ((b.toNat : Nat) : Int) := by omega
    have h5 := tg_read (sA := sA) h4
    simp only [ex] at h
    split at h
    · split at h
      · exact st_getfield X f2 f3 hb f1 (LYT_at a f2) h5 hd ⟨h.1, hn _ h.2⟩
      · exact st_getfield X f2 f3 hb f1 (LYT_at a f2) h5 hd ⟨h.1, hn _ h.2⟩
      · rename_i g1 g2
        have h6 : ∀ x : Int, toF sA 0 x = toF sA (ftg (tyC a b.toNat)) x := by
          intro x
          have h7 := h5 x
          split at h7
          · exact absurd rfl g1
          · exact absurd rfl g2
          · exact h7
        exact st_getfield X f2 f3 hb f1 (LYT_at a f2) h6 hd ⟨h.1, hn _ h.2⟩
    · exact h.elim
  case putfield n =>
    simp only [okX, okB, Bool.and_eq_true, decide_eq_true_eq] at hE
    obtain ⟨⟨⟨h1, h2, h3⟩, h4⟩, h7⟩ := hE
    obtain rfl : nx = pc + 3 := beq_of h1
    rw [Nat.add_sub_cancel_left] at hd
    obtain ⟨f1, f2, f3⟩ := FLT_at (by simpa only [Bool.and_eq_true] using h2)
    have hb : b = ((b.toNat : Nat) : Int) := by omega
    have hfin : (TF a b.toNat).2.2.2 = false ∨ (meth.name = "<init>" ∧ (TF a b.toNat).1 = clN oc ∧ (TF a b.toNat).2.2.2 = true) := by
      cases h8 : (TF a b.toNat).2.2.2 with
      | false => exact Or.inl rfl
      | true =>
        rw [h8] at h7
        simp at h7
        exact Or.inr ⟨hini h7.1, h7.2, rfl⟩
    match t, h4, h with
    | 0, h4, h =>
      have h4 : tyC a b.toNat = .int := of_decide_eq_true h4
      simp only [ex] at h
      split at h
      · obtain ⟨g1, g2⟩ := h
        exact st_putfield X f2 f3 hb f1 (LYT_at a f2) hfin (by rw [h4]; rfl) (by rw [h4]; rfl) (by rw [h4]; rfl) hd g1 (hn _ (g2 _ rfl))
      · exact h.elim
    | 1, h4, h =>
      have h4 : tyC a b.toNat = .long := of_decide_eq_true h4
      simp only [ex] at h
      split at h
      · obtain ⟨g1, g2⟩ := h
        exact st_putfield X f2 f3 hb f1 (LYT_at a f2) hfin (by rw [h4]; rfl) (by rw [h4]; rfl) (by rw [h4]; rfl) hd g1 (hn _ (g2 _ rfl))
      · exact h.elim
    | 2, h4, h =>
      have h4 : ftg (tyC a b.toNat) = 2 := beq_of h4
      simp only [ex] at h
      split at h
      · obtain ⟨g1, g2⟩ := h
        obtain ⟨r1, r2⟩ := ref_ok (sA := sA) h4
        exact st_putfield X f2 f3 hb f1 (LYT_at a f2) hfin (by rw [h4]) (r1 _) (r2 _) hd g1 (hn _ (g2 _ rfl))
      · exact h.elim
    | 3, h4, h =>
      have h4 : tyC a b.toNat = .boolean := of_decide_eq_true h4
      simp only [ex] at h
      split at h
      · obtain ⟨⟨g1, g3⟩, g2⟩ := h
        exact st_putfield X f2 f3 hb f1 (LYT_at a f2) hfin (by rw [h4]; rfl) (by rw [h4]; exact nar_bool g3) (by rw [h4]; exact fit_bool g3) hd g1 (hn _ (g2 _ rfl))
      · exact h.elim
    | _ + 4, h4, _ => cases h4
  case getstatic n =>
    simp only [okX, Bool.and_eq_true, decide_eq_true_eq] at hE
    obtain ⟨⟨h1, h2⟩, h3⟩ := hE
    obtain rfl : nx = pc + 3 := beq_of h1
    rw [Nat.add_sub_cancel_left] at hd
    obtain ⟨f1, f2⟩ := SFL_at (i := (-2 - b).toNat) (by simpa only [Bool.and_eq_true] using h2)
    have e : b = -2 - (((-2 - b).toNat : Nat) : Int) := by omega
    have h9 := hn _ h
    rw [e] at h9
    generalize (-2 - b).toNat = i at f1 f2 h9
    by_cases hi : i = 0
    · rw [if_pos hi] at f1
      exact st_getstatic X (Or.inl ⟨hi, rfl⟩) f1 hd h9
    · rw [if_neg hi] at f1
      exact st_getstatic X (Or.inr ⟨by omega, rfl⟩) f1 hd h9
  case arraylength =>
    obtain rfl : nx = pc + 1 := beq_of hE
    rw [Nat.add_sub_cancel_left] at hd
    simp only [ex] at h
    split at h
    · exact st_alen X hd h.1 (hn _ h.2)
    · exact h.elim
  case iaload =>
    obtain rfl : nx = pc + 1 := beq_of hE
    rw [Nat.add_sub_cancel_left] at hd
    simp only [ex] at h
    split at h
    · exact st_iaload X hd h.1 (hn _ h.2)
    · exact h.elim
  case baload =>
    obtain rfl : nx = pc + 1 := beq_of hE
    rw [Nat.add_sub_cancel_left] at hd
    simp only [ex] at h
    split at h
    · exact st_baload X hd h.1 (hn _ h.2)
    · exact h.elim
  case laload =>
    obtain rfl : nx = pc + 1 := beq_of hE
    rw [Nat.add_sub_cancel_left] at hd
    simp only [ex] at h
    split at h
    · exact st_laload X hd h.1 (hn _ h.2)
    · exact h.elim
  case aaload =>
    have hE : (Nat.beq nx (pc + 1) && Nat.blt a 13) = true := hE
    rw [Bool.and_eq_true] at hE
    obtain ⟨h1, h2⟩ := hE
    obtain rfl : nx = pc + 1 := beq_of h1
    rw [Nat.add_sub_cancel_left] at hd
    simp only [ex] at h
    split at h
    · exact st_aaload X (blt_of h2) hd h.1 (hn _ h.2)
    · exact h.elim
  case iastore =>
    obtain rfl : nx = pc + 1 := beq_of hE
    rw [Nat.add_sub_cancel_left] at hd
    simp only [ex] at h
    split at h
    · exact st_iastore X hd h.1 (hn _ (h.2 _ rfl))
    · exact h.elim
  case lastore =>
    obtain rfl : nx = pc + 1 := beq_of hE
    rw [Nat.add_sub_cancel_left] at hd
    simp only [ex] at h
    split at h
    · exact st_lastore X hd h.1 (hn _ (h.2 _ rfl))
    · exact h.elim
  case bastore =>
    obtain rfl : nx = pc + 1 := beq_of hE
    rw [Nat.add_sub_cancel_left] at hd
    simp only [ex] at h
    split at h
    · split at h
      · exact st_bastore X hd h.1 (hn _ (h.2 _ rfl))
      · exact st_zastore X hd h.1 (hn _ (h.2 _ rfl))
    · exact h.elim
  case aastore =>
    have hE : (Nat.beq nx (pc + 1) && Nat.blt a 13) = true := hE
    rw [Bool.and_eq_true] at hE
    obtain ⟨h1, h2⟩ := hE
    obtain rfl : nx = pc + 1 := beq_of h1
    rw [Nat.add_sub_cancel_left] at hd
    simp only [ex] at h
    split at h
    · exact st_aastore X (blt_of h2) hd h.1 (hn _ (h.2 _ rfl))
    · exact h.elim
  case newarray at_ =>
    simp only [okX, Bool.and_eq_true] at hE
    obtain ⟨h1, h2⟩ := hE
    obtain rfl : nx = pc + 2 := beq_of h1
    rw [Nat.add_sub_cancel_left] at hd
    simp only [ex] at h
    split at h
    · have h9 := hn _ (h.2 _ _ rfl rfl)
      split at h2
      · rw [beq_of h2] at h9
        exact st_newarray X (at_ := .int) (kind := ((100 : Nat) : Int)) k_100 (tb_of ARP_ok.1) (Or.inl rfl) hd h.1 h9
      · rw [beq_of h2] at h9
        exact st_newarray X (at_ := .byte) (kind := ((101 : Nat) : Int)) k_101 (tb_of ARP_ok.2.1) (Or.inr rfl) hd h.1 h9
      · rw [beq_of h2] at h9
        exact st_newarray X (at_ := .boolean) (kind := ((102 : Nat) : Int)) k_102 (tb_of ARP_ok.2.2.1) (Or.inl rfl) hd h.1 h9
      · rw [beq_of h2] at h9
        exact st_newarray X (at_ := .long) (kind := ((103 : Nat) : Int)) k_103 (tb_of ARP_ok.2.2.2) (Or.inl rfl) hd h.1 h9
      · cases h2
    · exact h.elim
  case anewarray n =>
    simp only [okX, Bool.and_eq_true] at hE
    obtain ⟨⟨h1, h2⟩, h3⟩ := hE
    obtain rfl : nx = pc + 3 := beq_of h1
    rw [Nat.add_sub_cancel_left] at hd
    obtain ⟨f1, f2⟩ := CLT_at (by simpa only [Bool.and_eq_true] using h2)
    obtain ⟨q, hq, h4⟩ := List.any_eq_true.mp h3
    have h5 := of_decide_eq_true (List.all_eq_true.mp AOP_ok q hq)
    rw [beq_of h4] at h5
    simp only [ex] at h
    split at h
    · exact st_anewarray X f2 f1 (List.mem_of_getElem? h5) hd h.1 (hn _ (h.2 _ _ rfl rfl))
    · exact h.elim
  case new n =>
    simp only [okX, Bool.and_eq_true] at hE
    obtain ⟨h1, h2⟩ := hE
    obtain rfl : nx = pc + 3 := beq_of h1
    rw [Nat.add_sub_cancel_left] at hd
    obtain ⟨f1, f2⟩ := CLT_at (by simpa only [Bool.and_eq_true] using h2)
    obtain ⟨f3, f4⟩ := NWT_at a f2
    exact st_new X f2 f1 f3 f4 (LYT_at a f2) hd h.1 (hn _ (h.2 _ _ rfl rfl))
  case invokevirtual n =>
    simp only [okX, Bool.and_eq_true] at hE
    obtain ⟨⟨⟨h1, h2⟩, h3⟩, h4⟩ := hE
    obtain rfl : nx = pc + 3 := beq_of h1
    rw [Nat.add_sub_cancel_left] at hd
    have h4 : YT.any (fun q => Nat.beq q.1 a && Nat.beq q.2.1 (b.toNat - 1) && Nat.beq q.2.2.1 0) = true := by simpa only [Bool.and_eq_true] using h4
    obtain ⟨f1, f2, f3, -⟩ := YT_at h4
    obtain ⟨f5, f6, f7⟩ := f3 rfl
    obtain ⟨g1, g2, w, g3, g4, g5⟩ := exI_inv hg h
    obtain ⟨o, As, e, hrv⟩ := virt_recv g3 f7 (fun z => by rcases f7 with q | ⟨q, -⟩; omega; by_cases z2 : a = 9000; rw [z2] at q; exact absurd q (by decide +kernel); omega)
    obtain ⟨e1, e2⟩ := len_pred g1 e
    have hM := hcall a _ _ _ _ _ w h4 g3
    rw [e] at hM
    exact st_callV X f1 f2 e1 hR1 hR2 (MLT_at0 (by simpa only [Bool.and_eq_true] using h2)) f5 f6 hM hrv e2 g2 g4 hd (hn _ g5)
  case invokestatic n =>
    have hE : (Nat.beq nx (pc + 3) && (bif Nat.beq a 9998 then ACL.any (fun q => Nat.beq q.1 oc && Nat.beq q.2.1 n) else MLT.any (fun q => Nat.beq q.1 oc && Nat.beq q.2.1 n && Nat.beq q.2.2.1 a) && YT.any (fun q => Nat.beq q.1 a && Nat.beq q.2.1 b.toNat && Nat.beq q.2.2.1 1))) = true := hE
    rw [Bool.and_eq_true] at hE
    obtain ⟨h1, h2⟩ := hE
    obtain rfl : nx = pc + 3 := beq_of h1
    rw [Nat.add_sub_cancel_left] at hd
    simp only [ex] at h
    split at h
    · split at h
      · rename_i r
        cases h9 : Nat.ble (cats r) 8 with
        | false => rw [h9] at h; exact h.elim
        | true =>
          rw [h9] at h
          exact st_acopy X (ACL_at h2) (by omega) (by omega) (Nat.le_of_ble_eq_true h9) hd h.1 (hn _ (h.2 _ rfl))
      · exact h.elim
    · rename_i hne
      have e0 : Nat.beq a 9998 = false := by
        cases z : Nat.beq a 9998 with
        | false => rfl
        | true => exact absurd (beq_of z) hne
      rw [e0] at h2
      have h2 : (MLT.any (fun q => Nat.beq q.1 oc && Nat.beq q.2.1 n && Nat.beq q.2.2.1 a) && YT.any (fun q => Nat.beq q.1 a && Nat.beq q.2.1 b.toNat && Nat.beq q.2.2.1 1)) = true := h2
      rw [Bool.and_eq_true] at h2
      obtain ⟨h2, h4⟩ := h2
      obtain ⟨f1, f2, -, f3, -⟩ := YT_at h4
      obtain ⟨g1, g2, w, g3, g4, g5⟩ := exI_inv hg h
      refine st_callS X f1 f2 (As := (st.take b.toNat).reverse) (by rw [List.length_reverse, List.length_take]; omega) hR1 hR2 (MLT_at h2) (f3 rfl).1 (hcall a _ _ _ _ _ w h4 g3) ?_ g2 g4 hd (hn _ g5)
      rw [List.reverse_reverse]
      exact (List.take_append_drop _ _).symm
  case invokespecial n =>
    have hE : (Nat.beq nx (pc + 3) && (bif Nat.beq a 9999 then OBL.any (fun q => Nat.beq q.1 oc && Nat.beq q.2.1 n) else MLT.any (fun q => Nat.beq q.1 oc && Nat.beq q.2.1 n && Nat.beq q.2.2.1 a) && Nat.blt 0 b.toNat && YT.any (fun q => Nat.beq q.1 a && Nat.beq q.2.1 (b.toNat - 1) && Nat.beq q.2.2.1 2))) = true := hE
    rw [Bool.and_eq_true] at hE
    obtain ⟨h1, h2⟩ := hE
    obtain rfl : nx = pc + 3 := beq_of h1
    rw [Nat.add_sub_cancel_left] at hd
    simp only [ex] at h
    split at h
    · split at h
      · rename_i o r
        cases h9 : Nat.ble (cats r) 8 with
        | false => rw [h9] at h; exact h.elim
        | true =>
          rw [h9] at h
          obtain ⟨⟨z1, z2⟩, h⟩ := h
          intro lsM H locs hC hP hL hq k1 k2
          have z1 : 0 ≤ S.1 o := z1
          have z2 : S.1 o < 13 := z2
          have ho2 := (obj_recv (V := V) (S := S) (o := o) (ci := (S.1 o).toNat) (by omega) (by omega) H hC hP).1
          exact st_objinit X ho2 (OBL_at h2) (tb_of OBI_ok.1) (tb_of OBI_ok.2) (by omega) (by omega) (Nat.le_of_ble_eq_true h9) hd (hn _ h) lsM H locs hC hP hL hq k1 k2
      · exact h.elim
    · rename_i hne
      have e0 : Nat.beq a 9999 = false := by
        cases z : Nat.beq a 9999 with
        | false => rfl
        | true => exact absurd (beq_of z) hne
      rw [e0] at h2
      have h2 : (MLT.any (fun q => Nat.beq q.1 oc && Nat.beq q.2.1 n && Nat.beq q.2.2.1 a) && Nat.blt 0 b.toNat && YT.any (fun q => Nat.beq q.1 a && Nat.beq q.2.1 (b.toNat - 1) && Nat.beq q.2.2.1 2)) = true := h2
      rw [Bool.and_eq_true, Bool.and_eq_true] at h2
      obtain ⟨⟨h2, h3⟩, h4⟩ := h2
      obtain ⟨f1, f2, -, -, f3, -⟩ := YT_at h4
      obtain ⟨f5, f6, f7, f8, f9, f10⟩ := f3 rfl
      obtain ⟨g1, g2, w, g3, g4, g5⟩ := exI_inv hg h
      obtain ⟨o, As, e, ho⟩ := run_rcv g3 f10 f8 f9
      obtain ⟨e1, e2⟩ := len_pred g1 e
      have hM := hcall a _ _ _ _ _ w h4 g3
      rw [e] at hM
      intro lsM H locs hC hP hL hq k1 k2
      have hP : PPx D B0 sA s V S H := hP
      have ho2 := (obj_recv (V := V) f9 ho H hC hP).1
      exact st_callI X f1 f2 e1 hR1 hR2 (MLT_at h2) f5 f6 f7 hM ho2 e2 g2 g4 hd (hn _ g5) lsM H locs hC hP hL hq k1 k2
  case ireturn =>
    simp only [okX, Bool.and_eq_true] at hE
    obtain ⟨h1, h2⟩ := hE
    obtain rfl : nx = pc + 1 := beq_of h1
    rw [Nat.add_sub_cancel_left] at hd
    simp only [ex] at h
    split at h
    · split at h
      · exact hrI _ _ _ _ _ hd (Or.inr ⟨of_decide_eq_true h2, h.1⟩) h.2
      · rename_i hne
        split at h2
        · exact absurd rfl hne
        · exact hrI _ _ _ _ _ hd (Or.inl (of_decide_eq_true h2)) h
    · exact h.elim
  case lreturn =>
    have hE : (Nat.beq nx (pc + 1) && decide (rt = some .long)) = true := hE
    rw [Bool.and_eq_true] at hE
    obtain ⟨h1, h2⟩ := hE
    obtain rfl : nx = pc + 1 := beq_of h1
    rw [Nat.add_sub_cancel_left] at hd
    simp only [ex] at h
    split at h
    · exact hrL _ _ _ _ _ hd (of_decide_eq_true h2) h
    · exact h.elim
  case areturn =>
    simp only [okX, Bool.and_eq_true] at hE
    obtain ⟨h1, h2⟩ := hE
    obtain rfl : nx = pc + 1 := beq_of h1
    rw [Nat.add_sub_cancel_left] at hd
    simp only [ex] at h
    split at h
    · split at h2
      · exact hrA _ _ _ _ _ hd (Or.inl ⟨_, rfl⟩) h
      · exact hrA _ _ _ _ _ hd (Or.inr ⟨_, rfl⟩) h
      · cases h2
    · exact h.elim
  case return_ =>
    have hE : (Nat.beq nx (pc + 1) && decide (rt = none)) = true := hE
    rw [Bool.and_eq_true] at hE
    obtain ⟨h1, h2⟩ := hE
    obtain rfl : nx = pc + 1 := beq_of h1
    rw [Nat.add_sub_cancel_left] at hd
    simp only [ex] at h
    split at h
    · exact hrV _ _ _ _ hd (of_decide_eq_true h2) h
    · exact h.elim
  all_goals exact (h : False).elim
end SP
