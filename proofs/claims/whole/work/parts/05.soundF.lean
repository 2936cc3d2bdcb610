/-! the law's own body; the claim out of an abstract run of it -/
def lawE (pc : Nat) : Bool := okE 16 (some .boolean) 4 false code pc (cd_law_law pc)
theorem ckl_0 : (List.range 138).all (fun k => lawE (0 + k)) = true := by decide +kernel
theorem ckl_1 : (List.range 138).all (fun k => lawE (138 + k)) = true := by decide +kernel
theorem ckl_2 : (List.range 138).all (fun k => lawE (276 + k)) = true := by decide +kernel
theorem ckl_3 : (List.range 138).all (fun k => lawE (414 + k)) = true := by decide +kernel
theorem ckl_4 : (List.range 138).all (fun k => lawE (552 + k)) = true := by decide +kernel
theorem ckl_5 : (List.range 138).all (fun k => lawE (690 + k)) = true := by decide +kernel
theorem ckl_6 : (List.range 138).all (fun k => lawE (828 + k)) = true := by decide +kernel
theorem ckl_7 : (List.range 138).all (fun k => lawE (966 + k)) = true := by decide +kernel
theorem ckl_8 : (List.range 138).all (fun k => lawE (1104 + k)) = true := by decide +kernel
theorem ckl_9 : (List.range 138).all (fun k => lawE (1242 + k)) = true := by decide +kernel
theorem ckl_10 : (List.range 138).all (fun k => lawE (1380 + k)) = true := by decide +kernel
theorem ckl_11 : (List.range 138).all (fun k => lawE (1518 + k)) = true := by decide +kernel
theorem ckl_at {lo : Nat} (h : (List.range 138).all (fun k => lawE (lo + k)) = true) {pc : Nat} (h1 : lo ≤ pc) (h2 : pc < lo + 138) : lawE pc = true := by
  have := List.all_eq_true.mp h (pc - lo) (List.mem_range.mpr (by omega))
  rw [show lo + (pc - lo) = pc by omega] at this
  exact this
theorem ckl_all : CHK 16 (some .boolean) 4 false code cd_law_law 1656 = true := by
  unfold CHK
  rw [List.all_eq_true]
  intro pc hp
  have hp := List.mem_range.mp hp
  by_cases h0 : pc < 138
  · exact ckl_at ckl_0 (by omega) (by omega)
  by_cases h1 : pc < 276
  · exact ckl_at ckl_1 (by omega) (by omega)
  by_cases h2 : pc < 414
  · exact ckl_at ckl_2 (by omega) (by omega)
  by_cases h3 : pc < 552
  · exact ckl_at ckl_3 (by omega) (by omega)
  by_cases h4 : pc < 690
  · exact ckl_at ckl_4 (by omega) (by omega)
  by_cases h5 : pc < 828
  · exact ckl_at ckl_5 (by omega) (by omega)
  by_cases h6 : pc < 966
  · exact ckl_at ckl_6 (by omega) (by omega)
  by_cases h7 : pc < 1104
  · exact ckl_at ckl_7 (by omega) (by omega)
  by_cases h8 : pc < 1242
  · exact ckl_at ckl_8 (by omega) (by omega)
  by_cases h9 : pc < 1380
  · exact ckl_at ckl_9 (by omega) (by omega)
  by_cases h10 : pc < 1518
  · exact ckl_at ckl_10 (by omega) (by omega)
  by_cases h11 : pc < 1656
  · exact ckl_at ckl_11 (by omega) (by omega)
  omega
theorem ck_law : ∀ pc, okE 16 (some .boolean) 4 false code pc (fch cd_law_law pc) = true := okE_all (M := 1656) (far_of (T := fun pc => _) rfl) ckl_all
section LW
variable {D : va_G} {sA : Nat → Nat} {p : Program} {l : Launch} {en : Env} {s : State} {m : MethodId} {below : List Frame} {meth : Method} {co : Code} {b : Nat}
theorem law_go {d : Nat} (hd : d ≤ 400) (X : CTX p room_1 s m #[Value.ref b] co 4 (600000, 7302250) (clN 16) lw_tbl code) (hlocks : meth.locks = false) (hret : meth.sig.returnType = ret) :
    ∀ (n : Nat) (c : Cfg) (w : Res), Ex (Run MM d) (600000, 7302250) cd_law_law n c w → w.1 = some (0, 1) → WW D s.heap.size sA p l en room_1 s m #[Value.ref b] below meth co (lw_Z below #[Value.ref b] s) 4 (600000, 7302250) c := by
  intro n
  induction n with
  | zero => intro c w h; exact h.elim
  | succ n ih =>
    intro c w h hw1
    obtain ⟨pc, ls, st, V, S, g⟩ := c
    have h : go (fun q nx => c1R (Run MM d) nx q) (fun q nx => c0R (Run MM d) nx q) (fun c1 => Ex (Run MM d) (600000, 7302250) cd_law_law n c1 w) (fun r => r = w) (ex (600000, 7302250) (fch cd_law_law pc) (pc, ls, st, V, S, g)) := h
    have hE := ck_law pc
    generalize fch cd_law_law pc = e at h hE
    unfold okE at hE
    rw [Bool.or_eq_true] at hE
    have hf : d + 7 ≤ room_1.frames := by show d + 7 ≤ 2048; omega
    have hg : 200 * (d + 7) ≤ room_1.locals := by show 200 * (d + 7) ≤ 84000; omega
    rcases hE with hE | hE
    · obtain ⟨i, r⟩ := e
      cases i <;> first | (cases hE; done) | exact h.elim
    · rw [Bool.and_eq_true] at hE
      refine step X hf hg (fun z => by cases z) hE.2 (dcB_at hE.1) (fun c' h' => ih c' w h' hw1) ?_ ?_ ?_ ?_ (fun y n k As V S w hY hR => sound d y n k As V S w hY hR) h
      · intro ls x V S g hd hor hw
        subst hw
        have hx : x = 1 := by cases hw1; rfl
        subst hx
        intro lsM H locs hC hP hL hq g1 g2
        refine W.widen g1 g2 ?_
        refine va_forget hq ?_
        exact lw_ret X.1 X.2.1 hret hlocks hd
      · intro ls x V S g hd h1 hw
        cases h1
      · intro ls x V S g hd h1 hw
        rcases h1 with ⟨n, h1⟩ | ⟨t, h1⟩ <;> cases h1
      · intro ls V S g hd h1 hw
        cases h1
end LW
/-- what is owed of the abstract machine alone -/
def LawRuns : Prop := ∀ (b L z : Nat) (xs : Nat → Int32), b < z → L ≤ 3072 → ∃ d, d ≤ 400 ∧ Ok MM d (600000, 7302250) cd_law_law (fun w => w.1 = some (0, 1)) (0, entL [(2, (b : Int))] 4, [], V0 b xs, S0 b L z, (0, 0))
theorem whole_of (hR : LawRuns) {p : Program} {e : Env} {s : State} {m : MethodId} {below : List Frame} {meth : Method} {c : Code} (l : Launch) (hflags : l.flags = flags0) {b L : Nat} {xs : Nat → Int32} (hL : L ≤ 3072) (C0 : lw_At p s m meth c b L xs) : W p l e room_1 s m #[Value.ref b] below meth c s.heap [] 0 0 (lw_Z below #[Value.ref b] s) (entryFrame m ([Value.ref b] : List Value).toArray 4) := by
  obtain ⟨hx, hb, hr, hml, hown, hts, hX, hbl, hlocks, hgv⟩ := id C0
  obtain ⟨D, sA, hC, hP⟩ := start hts hgv hX hbl hL
  obtain ⟨d, hd, n, w, hE, hw⟩ := hR b L s.heap.size xs hbl hL
  have X : CTX p room_1 s m #[Value.ref b] c 4 (600000, 7302250) (clN 16) lw_tbl code := ⟨hx, hb, hml, hown, hts, fun w hw => (List.mem_filter.mp hw).1, Nat.le_refl _, Nat.le_refl _⟩
  have hW := law_go (D := D) (sA := sA) (l := l) (en := e) (below := below) hd X hlocks hr n _ w hE hw
  have e1 : ([(2, (b : Int))] : List XV).map (toV sA) = [Value.ref b] := by
    rw [List.map_cons, toV_ref (by omega)]; rfl
  have hloc := loc_entry (sA := sA) (As := [(2, (b : Int))]) (n := 4) (by decide)
  rw [e1] at hloc
  rw [lg_entry_eq]
  exact hW _ s.heap [] hC hP hloc (fun q hq => absurd hq List.not_mem_nil) (Nat.zero_le _) (Nat.zero_le _)
