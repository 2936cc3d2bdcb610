/-! the claim out of an abstract run of the law -/
section LW
variable {D : va_G} {sA : Nat → Nat} {p : Program} {l : Launch} {en : Env} {s : State} {m : MethodId} {below : List Frame} {meth : Method} {co : Code} {b : Nat}
theorem law_go {d : Nat} (hd : d ≤ 400) (X : CTX p room_1 s m #[Value.ref b] co 4 (600000, 7302250) (clN 16) lw_tbl code) (hlocks : meth.locks = false) (hret : meth.sig.returnType = ret) :
    ∀ (n : Nat) (c : Cfg) (w : Res), Ex (Run MM d) (600000, 7302250) cd_law_law n c w → w.1 = some (0, 1) → WW D s.heap.size sA p l en room_1 s m #[Value.ref b] below meth co (lw_Z below #[Value.ref b] s) 4 (600000, 7302250) c := by
  intro n
  induction n with
  | zero => intro c w h; exact h.elim
  | succ n ih =>
    intro c w h hw1
    obtain ⟨pc, ls, st, V, S, g⟩ := c
    have h : go (fun q nx => c1R (Run MM d) nx q) (fun q nx => c0R (Run MM d) nx q) (fun c1 => Ex (Run MM d) (600000, 7302250) cd_law_law n c1 w) (fun r => r = w) (ex (600000, 7302250) (fch cd_law_law pc) (pc, ls, st, V, S, g)) := h
    have hE := ck_law pc
    generalize fch cd_law_law pc = e at h hE
    unfold okE at hE
    rw [Bool.or_eq_true] at hE
    have hf : d + 7 ≤ room_1.frames := by show d + 7 ≤ 2048; omega
    have hg : 200 * (d + 7) ≤ room_1.locals := by show 200 * (d + 7) ≤ 84000; omega
    rcases hE with hE | hE
    · obtain ⟨i, r⟩ := e
      cases i <;> first | (cases hE; done) | exact h.elim
    · rw [Bool.and_eq_true] at hE
      refine step X hf hg (fun z => by cases z) hE.2 (dcB_at hE.1) (fun c' h' => ih c' w h' hw1) ?_ ?_ ?_ ?_ (fun y n k As V S w hY hR => sound d y n k As V S w hY hR) h
      · intro ls x V S g hd hor hw
        subst hw
        have hx : x = 1 := by cases hw1; rfl
        subst hx
        intro lsM H locs hC hP hL hq g1 g2
        refine W.widen g1 g2 ?_
        refine va_forget hq ?_
        exact lw_ret X.1 X.2.1 hret hlocks hd
      · intro ls x V S g hd h1 hw
        cases h1
      · intro ls x V S g hd h1 hw
        rcases h1 with ⟨n, h1⟩ | ⟨t, h1⟩ <;> cases h1
      · intro ls V S g hd h1 hw
        cases h1
end LW
/-- what is owed of the abstract machine alone -/
def LawRuns : Prop := ∀ (b L z : Nat) (xs : Nat → Int32), b < z → L ≤ 3072 → ∃ d, d ≤ 400 ∧ Ok MM d (600000, 7302250) cd_law_law (fun w => w.1 = some (0, 1)) (0, entL [(2, (b : Int))] 4, [], V0 b xs, S0 b L z, (0, 0))
theorem whole_of (hR : LawRuns) {p : Program} {e : Env} {s : State} {m : MethodId} {below : List Frame} {meth : Method} {c : Code} (l : Launch) (hflags : l.flags = flags0) {b L : Nat} {xs : Nat → Int32} (hL : L ≤ 3072) (C0 : lw_At p s m meth c b L xs) : W p l e room_1 s m #[Value.ref b] below meth c s.heap [] 0 0 (lw_Z below #[Value.ref b] s) (entryFrame m ([Value.ref b] : List Value).toArray 4) := by
  obtain ⟨hx, hb, hr, hml, hown, hts, hX, hbl, hlocks, hgv⟩ := id C0
  obtain ⟨D, sA, hC, hP⟩ := start hts hgv hX hbl hL
  obtain ⟨d, hd, n, w, hE, hw⟩ := hR b L s.heap.size xs hbl hL
  have X : CTX p room_1 s m #[Value.ref b] c 4 (600000, 7302250) (clN 16) lw_tbl code := ⟨hx, hb, hml, hown, hts, fun w hw => (List.mem_filter.mp hw).1, Nat.le_refl _, Nat.le_refl _⟩
  have hW := law_go (D := D) (sA := sA) (l := l) (en := e) (below := below) hd X hlocks hr n _ w hE hw
  have e1 : ([(2, (b : Int))] : List XV).map (toV sA) = [Value.ref b] := by
    rw [List.map_cons, toV_ref (by omega)]; rfl
  have hloc := loc_entry (sA := sA) (As := [(2, (b : Int))]) (n := 4) (show 1 ≤ 4 by decide)
  rw [e1] at hloc
  rw [lg_entry_eq]
  exact hW _ s.heap [] hC hP hloc (fun q hq => absurd hq List.not_mem_nil) (Nat.zero_le _) (Nat.zero_le _)
