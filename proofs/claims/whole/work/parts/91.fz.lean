/-! what a run leaves: frozen arrays, and kinds of what is not made in it -/
def FZ (q : Int) (V : Mem) (S : Shp) (V1 : Mem) (S1 : Shp) : Prop := S1.1 q = S.1 q ∧ S1.2.1 q = S.2.1 q ∧ V1 q = V q ∧ S.2.2 ≤ S1.2.2 ∧ ∀ a, (a < S.2.2 ∨ S1.2.2 ≤ a) → S1.1 a = S.1 a
theorem cnd {α : Type} (c : Bool) (x y : α) : cond c x y = if c = true then x else y := by cases c <;> rfl
section FZS
variable {d : Nat} {q : Int} {mc : Cnt} {V V1 V2 : Mem} {S S1 S2 : Shp} {g : Cnt} {ls st : List XV} {next : Cfg → Prop} {ret : Res → Prop} {pc : Nat} {P : Prop}
theorem FZ.rf : FZ q V S V S := ⟨rfl, rfl, rfl, Int.le_refl _, fun _ _ => rfl⟩
theorem FZ.tr (h : FZ q V S V1 S1) (k : FZ q V1 S1 V2 S2) : FZ q V S V2 S2 := by
  obtain ⟨h1, h2, h3, h4, h5⟩ := h
  obtain ⟨k1, k2, k3, k4, k5⟩ := k
  exact ⟨k1.trans h1, k2.trans h2, k3.trans h3, Int.le_trans h4 k4, fun a ha => (k5 a (by omega)).trans (h5 a (by omega))⟩
theorem FZ.up {a k v : Int} (h : q ≠ a) : FZ q V S (up2 V a k v) S := ⟨rfl, rfl, funext (fun _ => up2_ne (Or.inl h)), Int.le_refl _, fun _ _ => rfl⟩
theorem FZ.cpy {a i b j n : Int} (h : q ≠ b) : FZ q V S (cpyI V a i b j n) S := ⟨rfl, rfl, funext (fun _ => if_neg (fun z => h z.1)), Int.le_refl _, fun _ _ => rfl⟩
theorem FZ.new {f : Int → Int} {κ : Int} {N1 : Int → Int} (h : q < S.2.2) (hN : N1 q = S.2.1 q) : FZ q V S (upo V S.2.2 f) (upk S.1 S.2.2 κ, N1, S.2.2 + 1) := by
  refine ⟨by show upk _ _ _ q = _; exact upk_ne (by omega), hN, upo_ne (by omega), by show S.2.2 ≤ S.2.2 + 1; omega, fun a ha => ?_⟩
  have ha : a < S.2.2 ∨ S.2.2 + 1 ≤ a := ha
  show upk _ _ _ a = _
  exact upk_ne (by omega)
def CallF (d : Nat) (q : Int) (V : Mem) (S : Shp) : Prop := ∀ (y n k : Nat) (As : List XV) (w : Res), YT.any (fun q => Nat.beq q.1 y && Nat.beq q.2.1 n && Nat.beq q.2.2.1 k) = true → Run MM d y As V S w → FZ q V S w.2.1 w.2.2
def NextF (q : Int) (V : Mem) (S : Shp) (next : Cfg → Prop) (P : Prop) : Prop := ∀ (pc : Nat) (ls st : List XV) (V1 : Mem) (S1 : Shp) (g : Cnt), FZ q V S V1 S1 → next (pc, ls, st, V1, S1, g) → P
theorem fz_exI {nx a n t n0 k0 : Nat} {ls1 : List XV} (hY : YT.any (fun q => Nat.beq q.1 a && Nat.beq q.2.1 n0 && Nat.beq q.2.2.1 k0) = true) (hn : NextF q V S next P) (hc : CallF d q V S) (h : go (fun q nx => c1R (Run MM d) nx q) (fun q nx => c0R (Run MM d) nx q) next ret (exI mc (mcc a) nx a n t ls1 st V S g)) : P := by
  simp only [exI, cnd] at h
  split at h
  · split at h
    · split at h
      · obtain ⟨V1, S1, hR, h⟩ := h
        exact hn _ _ _ _ _ _ (hc _ _ _ _ _ hY hR) h
      · obtain ⟨x, V1, S1, hR, h⟩ := h
        exact hn _ _ _ _ _ _ (hc _ _ _ _ _ hY hR) h
    · split at h
      · obtain ⟨hp, V1, S1, hR, h⟩ := h
        exact hn _ _ _ _ _ _ (hc _ _ _ _ _ hY hR) h
      · obtain ⟨hp, x, V1, S1, hR, h⟩ := h
        exact hn _ _ _ _ _ _ (hc _ _ _ _ _ hY hR) h
  · exact h.elim
set_option maxHeartbeats 4000000 in
theorem fz_step {oc : Nat} {rt : Option FieldType} {nL : Nat} {ini : Bool} {e : Ent} (hE : okX oc rt nL ini pc e = true) (hq : S.1 q = 104) (hz : q < S.2.2) (hn : NextF q V S next P) (hc : CallF d q V S) (hr : ∀ o : Option XV, ret (o, V, S) → P)
    (h : go (fun q nx => c1R (Run MM d) nx q) (fun q nx => c0R (Run MM d) nx q) next ret (ex mc e (pc, ls, st, V, S, g))) : P := by
  obtain ⟨i, nx, a, b, t, dead, sw⟩ := e
  cases i
  case putfield n =>
    simp only [okX, okB, Bool.and_eq_true, decide_eq_true_eq] at hE
    obtain ⟨⟨⟨h1, h2, h3⟩, h4⟩, h7⟩ := hE
    obtain ⟨f1, f2, f3⟩ := FLT_at (by simpa only [Bool.and_eq_true] using h2)
    have key : ∀ o x : Int, S.1 o = (a : Int) → FZ q V S (up2 V o b x) S := fun o x ho => FZ.up (fun e => by rw [← e, hq] at ho; omega)
    simp only [ex] at h
    split at h
    · split at h
      · exact hn _ _ _ _ _ _ (key _ _ h.1) (h.2 _ rfl)
      · exact h.elim
    · split at h
      · exact hn _ _ _ _ _ _ (key _ _ h.1) (h.2 _ rfl)
      · exact h.elim
    · split at h
      · exact hn _ _ _ _ _ _ (key _ _ h.1) (h.2 _ rfl)
      · exact h.elim
    · split at h
      · exact hn _ _ _ _ _ _ (key _ _ h.1.1) (h.2 _ rfl)
      · exact h.elim
  case iastore =>
    simp only [ex] at h
    split at h
    · obtain ⟨⟨g1, g2⟩, g3⟩ := h
      exact hn _ _ _ _ _ _ (FZ.up (fun e => by rw [← e, hq] at g1; omega)) (g3 _ rfl)
    · exact h.elim
  case bastore =>
    simp only [ex] at h
    split at h
    · split at h
      · obtain ⟨⟨g1, g2⟩, g3⟩ := h
        exact hn _ _ _ _ _ _ (FZ.up (fun e => by rw [← e, hq] at g1; omega)) (g3 _ rfl)
      · obtain ⟨⟨⟨g1, g2⟩, g4⟩, g3⟩ := h
        exact hn _ _ _ _ _ _ (FZ.up (fun e => by rw [← e, hq] at g1; omega)) (g3 _ rfl)
    · exact h.elim
  case lastore =>
    simp only [ex] at h
    split at h
    · obtain ⟨⟨g1, g2⟩, g3⟩ := h
      exact hn _ _ _ _ _ _ (FZ.up (fun e => by rw [← e, hq] at g1; omega)) (g3 _ rfl)
    · exact h.elim
  case aastore =>
    simp only [ex] at h
    split at h
    · obtain ⟨⟨⟨g1, g2⟩, g4⟩, g3⟩ := h
      exact hn _ _ _ _ _ _ (FZ.up (fun e => by rw [← e, hq] at g1; omega)) (g3 _ rfl)
    · exact h.elim
  case newarray n =>
    simp only [ex] at h
    split at h
    · exact hn _ _ _ _ _ _ (FZ.new hz (upk_ne (by omega))) (h.2 _ _ rfl rfl)
    · exact h.elim
  case anewarray n =>
    simp only [ex] at h
    split at h
    · exact hn _ _ _ _ _ _ (FZ.new hz (upk_ne (by omega))) (h.2 _ _ rfl rfl)
    · exact h.elim
  case new n =>
    simp only [ex] at h
    exact hn _ _ _ _ _ _ (FZ.new hz rfl) (h.2 _ _ rfl rfl)
  case invokevirtual n =>
    simp only [okX, Bool.and_eq_true] at hE
    exact fz_exI (by simpa only [Bool.and_eq_true] using hE.2) hn hc h
  case invokestatic n =>
    simp only [ex] at h
    split at h
    · split at h
      · rename_i n j o i q' r
        cases h9 : Nat.ble (cats r) 8 with
        | false => rw [h9] at h; exact h.elim
        | true =>
          rw [h9] at h
          obtain ⟨⟨⟨g1, g2⟩, g3⟩, g5⟩ := h
          exact hn _ _ _ _ _ _ (FZ.cpy (fun e => by rw [← e, hq] at g2; omega)) (g5 _ rfl)
      · exact h.elim
    · rename_i hne
      have hE : (Nat.beq nx (pc + 3) && (bif Nat.beq a 9998 then ACL.any (fun q => Nat.beq q.1 oc && Nat.beq q.2.1 n) else MLT.any (fun q => Nat.beq q.1 oc && Nat.beq q.2.1 n && Nat.beq q.2.2.1 a) && YT.any (fun q => Nat.beq q.1 a && Nat.beq q.2.1 b.toNat && Nat.beq q.2.2.1 1))) = true := hE
      rw [Bool.and_eq_true] at hE
      have e0 : Nat.beq a 9998 = false := by
        cases z : Nat.beq a 9998 with
        | false => rfl
        | true => exact absurd (beq_of z) hne
      rw [e0] at hE
      exact fz_exI (and_r hE.2) hn hc h
  case invokespecial n =>
    simp only [ex] at h
    split at h
    · split at h
      · rename_i o r
        cases h9 : Nat.ble (cats r) 8 with
        | false => rw [h9] at h; exact h.elim
        | true =>
          rw [h9] at h
          exact hn _ _ _ _ _ _ FZ.rf h.2
      · exact h.elim
    · rename_i hne
      simp only [okX, cnd, Bool.and_eq_true] at hE
      obtain ⟨h1, h2⟩ := hE
      have e0 : ¬ (Nat.beq a 9999 = true) := fun z => hne (beq_of z)
      rw [if_neg e0] at h2
      exact fz_exI (and_r h2) hn hc h
  all_goals first
    | exact hn _ _ _ _ _ _ FZ.rf h
    | exact h.elim
    | (simp only [ex, cnd] at h
       repeat' split at h
       all_goals first
         | exact hn _ _ _ _ _ _ FZ.rf h
         | exact h.elim
         | exact hn _ _ _ _ _ _ FZ.rf h.2
         | exact hr _ h
         | exact hr _ h.2
         | exact (Classical.em _).elim (fun p => hn _ _ _ _ _ _ FZ.rf (h.1 p)) (fun p => hn _ _ _ _ _ _ FZ.rf (h.2 p))
         | exact (Classical.em _).elim (fun p => hn _ _ _ _ _ _ FZ.rf (h.2.1 p)) (fun p => hn _ _ _ _ _ _ FZ.rf (h.2.2 p))
         | exact hn _ _ _ _ _ _ FZ.rf ((gosw_swt _ _ _ _).mp h))
end FZS
theorem fz_go {d oc : Nat} {rt : Option FieldType} {nL : Nat} {ini : Bool} {cc : ByteArray} {cd : Cod} {mc : Cnt} {q : Int} (hck : ∀ pc, okE oc rt nL ini cc pc (fch cd pc) = true) (IH : ∀ (V : Mem) (S : Shp), S.1 q = 104 → q < S.2.2 → CallF d q V S) :
    ∀ (n pc : Nat) (ls st : List XV) (V : Mem) (S : Shp) (g : Cnt) (w : Res), S.1 q = 104 → q < S.2.2 → Ex (Run MM d) mc cd n (pc, ls, st, V, S, g) w → FZ q V S w.2.1 w.2.2 := by
  intro n
  induction n with
  | zero => intro pc ls st V S g w _ _ h; exact h.elim
  | succ n ih =>
    intro pc ls st V S g w hq hz h
    have h : go (fun q nx => c1R (Run MM d) nx q) (fun q nx => c0R (Run MM d) nx q) (fun c1 => Ex (Run MM d) mc cd n c1 w) (fun r => r = w) (ex mc (fch cd pc) (pc, ls, st, V, S, g)) := h
    have hE := hck pc
    generalize fch cd pc = e at h hE
    unfold okE at hE
    rw [Bool.or_eq_true] at hE
    rcases hE with hE | hE
    · obtain ⟨i, r⟩ := e
      cases i <;> first | (cases hE; done) | exact h.elim
    · rw [Bool.and_eq_true] at hE
      exact fz_step hE.2 hq hz (fun pc ls st V1 S1 g f hx => f.tr (ih pc ls st V1 S1 g w (f.1.trans hq) (by have := f.2.2.2.1; omega) hx)) (IH V S hq hz) (fun o e => by subst e; exact FZ.rf) h
theorem fz_ext {y : Nat} {As : List XV} {V : Mem} {S : Shp} {w : Res} {q : Int} (h : extR y As V S w) : FZ q V S w.2.1 w.2.2 := by
  unfold extR at h
  split at h
  · obtain ⟨o, -, -, rfl⟩ := h
    exact FZ.rf
  · obtain ⟨o, i, -, -, -, -, rfl⟩ := h
    exact FZ.rf
  · exact h.elim
theorem run_fz {q : Int} : ∀ (d : Nat) (V : Mem) (S : Shp), S.1 q = 104 → q < S.2.2 → CallF d q V S := by
  intro d
  induction d with
  | zero => intro V S _ _ y n k As w _ h; exact h.elim
  | succ d ih =>
    intro V S hq hz y n k As w hY hR
    rcases hR with h | ⟨hrc, m, h⟩
    · exact fz_ext h
    · obtain ⟨q', hq', h1⟩ := List.any_eq_true.mp hY
      simp only [Bool.and_eq_true] at h1
      have h2 := List.all_eq_true.mp YT_ids q' hq'
      have hy : q'.1 = y := Nat.eq_of_beq_eq_true h1.1.1
      rw [Bool.or_eq_true, Nat.blt_eq, Nat.blt_eq, hy] at h2
      rcases h2 with h2 | h2
      · have hck := (hy ▸ CK_all q' hq' (by rw [hy]; exact h2) : CK y)
        exact fz_go hck.2 ih m 0 _ _ V S (0, 0) w hq hz h
      · rw [mm_big h2] at h
        cases m with
        | zero => exact h.elim
        | succ m => exact (h : False).elim
theorem cv_fz {d t y n k : Nat} {As : List XV} {V : Mem} {S : Shp} {Q : Int → Mem → Shp → Prop} {q : Int} (hY : YT.any (fun q => Nat.beq q.1 y && Nat.beq q.2.1 n && Nat.beq q.2.2.1 k) = true) (hq : S.1 q = 104) (hz : q < S.2.2) (h : Cv MM d t y As V S Q) : Cv MM d t y As V S (fun x V1 S1 => Q x V1 S1 ∧ FZ q V S V1 S1) := by
  obtain ⟨x, V1, S1, hR, hQ⟩ := h
  exact ⟨x, V1, S1, hR, hQ, run_fz d V S hq hz y n k As _ hY hR⟩
