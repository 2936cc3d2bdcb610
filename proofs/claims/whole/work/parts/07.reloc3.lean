/-! relocation: of whole runs -/
section RR
variable {ρ0 ρ : Int → Int} {S0 : Shp} {B : Int} {mc : Cnt} {V V' : Mem} {S S' : Shp} {cd : Cod}
theorem rel_ext {y : Nat} {As As' : List XV} {w : Res} (h : extR y As V S w) (hL : LR ρ S As As') (hM : RM ρ B V S V' S') :
    ∃ w' : Res, extR y As' V' S' w' ∧ w'.1 = w.1.map (rX ρ) ∧ (∀ v, w.1 = some v → OKv w.2.2 v) ∧ RM ρ B w.2.1 w.2.2 w'.2.1 w'.2.2 ∧ w.2.2 = S := by
  unfold extR at h
  split at h
  · obtain ⟨o, rfl, ho, rfl⟩ := h
    obtain ⟨k1, k2, k3⟩ := hM.2.1 o (by rw [ho]; decide)
    have k2 := k2 (by rw [ho]; decide)
    have hA := hL.1
    subst hA
    exact ⟨(some (0, S'.2.1 (ρ o)), V', S'), ⟨ρ o, rfl, k1.trans ho, rfl⟩, by rw [k2]; rfl, fun v e => by cases e; exact okv_n (by decide), hM, rfl⟩
  · obtain ⟨o, i, rfl, ho, h0, h1, rfl⟩ := h
    obtain ⟨k1, k2, k3⟩ := hM.2.1 o (by rw [ho]; decide)
    have k2 := k2 (by rw [ho]; decide)
    have k4 := (k3 (s32 i)).1
    rw [ho] at k4
    have k4 : V' (ρ o) (s32 i) = V o (s32 i) := k4
    have hA := hL.1
    subst hA
    exact ⟨(some (0, V' (ρ o) (s32 i)), V', S'), ⟨ρ o, i, rfl, k1.trans ho, h0, by rw [k2]; exact h1, rfl⟩, by rw [k4]; rfl, fun v e => by cases e; exact okv_n (by decide), hM, rfl⟩
  · exact h.elim
/-- what the ends of two runs have to do with each other -/
def EndR (ρ0 : Int → Int) (S0 : Shp) (B : Int) (mc : Cnt) (w w' : Res) : Prop := ∃ ρ1 : Int → Int, w'.1 = w.1.map (rX ρ1) ∧ (∀ v, w.1 = some v → OKv w.2.2 v) ∧ RM ρ1 B w.2.1 w.2.2 w'.2.1 w'.2.2 ∧ XE ρ0 ρ1 S0 w.2.2 ∧ w.2.2.2.2 ≤ S0.2.2 + (mc.1 : Int)
theorem rel_go {d oc : Nat} {rt : Option FieldType} {nL : Nat} {ini : Bool} {cc : ByteArray} (hck : ∀ pc, okE oc rt nL ini cc pc (fch cd pc) = true) (IH : ∀ (ρ : Int → Int) (V : Mem) (S : Shp) (V' : Mem) (S' : Shp), RM ρ B V S V' S' → CallR d B ρ V S V' S') :
    ∀ (n : Nat) (ρ : Int → Int) (pc : Nat) (ls ls' st st' : List XV) (V : Mem) (S : Shp) (V' : Mem) (S' : Shp) (g : Cnt) (w : Res), Ex (Run MM d) mc cd n (pc, ls, st, V, S, g) w → LR ρ S ls ls' → LR ρ S st st' → CRK ρ0 S0 B mc ρ V S V' S' g → Ok MM d mc cd (EndR ρ0 S0 B mc w) (pc, ls', st', V', S', g) := by
  intro n
  induction n with
  | zero => intro ρ pc ls ls' st st' V S V' S' g w h; exact h.elim
  | succ n ih =>
    intro ρ pc ls ls' st st' V S V' S' g w h hL hS hK
    have h : go (fun q nx => c1R (Run MM d) nx q) (fun q nx => c0R (Run MM d) nx q) (fun c1 => Ex (Run MM d) mc cd n c1 w) (fun r => r = w) (ex mc (fch cd pc) (pc, ls, st, V, S, g)) := h
    rw [ok_iff]
    show gq MM d (Ok MM d mc cd (EndR ρ0 S0 B mc w)) (EndR ρ0 S0 B mc w) (ex mc (fch cd pc) (pc, ls', st', V', S', g))
    have hE := hck pc
    generalize fch cd pc = e at h hE ⊢
    unfold okE at hE
    rw [Bool.or_eq_true] at hE
    rcases hE with hE | hE
    · obtain ⟨i, r⟩ := e
      cases i <;> first | (cases hE; done) | exact h.elim
    · rw [Bool.and_eq_true] at hE
      refine rel_step hE.2 hL hS hK (fun ρ1 pc ls ls' st st' V S V' S' g a1 a2 a3 a4 => ih ρ1 pc ls ls' st st' V S V' S' g w a4 a1 a2 a3) (IH ρ V S V' S' hK.1) ?_ h
      intro o ho hw
      subst hw
      obtain ⟨hM, hX, hg, hb1, hb2⟩ := hK
      exact ⟨ρ, rfl, ho, hM, hX, by show S.2.2 ≤ S0.2.2 + (mc.1 : Int); omega⟩
theorem rcv_rel {i : MInf} {As As' : List XV} (h : rcv i As S) (hL : LR ρ S As As') (hM : RM ρ B V S V' S') : rcv i As' S' := by
  refine ⟨by rw [hL.cats]; exact h.1, ?_⟩
  have h2 := h.2
  have hA := hL.1
  subst hA
  split at h2
  · rename_i e; split
    · trivial
    · rename_i e2 _; rw [e] at e2; cases e2
    · rename_i e2 _; rw [e] at e2; cases e2
  · rename_i o r e
    have := hM.kind h2 (by omega)
    split
    · trivial
    · rename_i o2 r2 e2 e3
      have e4 : ((2, ρ o) : XV) = (2, o2) := (List.cons.inj e3).1
      cases e4
      exact this
    · rename_i e2 e3
      exact absurd rfl (e3 _ _)
  · exact h2.elim
theorem run_rel : ∀ (d : Nat) (B : Int) (ρ : Int → Int) (V : Mem) (S : Shp) (V' : Mem) (S' : Shp), RM ρ B V S V' S' → CallR d B ρ V S V' S' := by
  intro d
  induction d with
  | zero => intro B ρ V S V' S' _ y n k As As' w _ _ _ h; exact h.elim
  | succ d ih =>
    intro B ρ V S V' S' hM y n k As As' w hY hL hB hR
    rcases hR with h | ⟨hrc, m, h⟩
    · obtain ⟨w', e1, e2, e3, e4, e5⟩ := rel_ext h hL hM
      refine ⟨ρ, w', Or.inl e1, e2, e3, e4, ?_, by rw [e5]; omega⟩
      rw [e5]
      exact XE.rf
    · obtain ⟨q, hq, h1⟩ := List.any_eq_true.mp hY
      simp only [Bool.and_eq_true] at h1
      have h2 := List.all_eq_true.mp YT_ids q hq
      have hy : q.1 = y := Nat.eq_of_beq_eq_true h1.1.1
      rw [Bool.or_eq_true, Nat.blt_eq, Nat.blt_eq, hy] at h2
      rcases h2 with h2 | h2
      · have hck := (hy ▸ CK_all q hq (by rw [hy]; exact h2) : CK y)
        obtain ⟨-, -, -, -, -, hMM⟩ := YT_at hY
        rcases hMM with hMM | ⟨hM1, hM2, hM3⟩
        · omega
        have hO := rel_go (ρ0 := ρ) (S0 := S) (B := B) (mc := (MM y).2.1) hck.2 (fun ρ V S V' S' hM => ih B ρ V S V' S' hM) m ρ 0 _ _ _ _ V S V' S' (0, 0) w h (hL.entL _) LR.nil ⟨hM, XE.rf, ⟨Nat.zero_le _, Nat.zero_le _⟩, by rw [hM1]; show S.2.2 + ((mcc y).1 : Int) ≤ B + ((0 : Nat) : Int); omega, by show S.2.2 ≤ S.2.2 + ((0 : Nat) : Int); omega⟩
        obtain ⟨m', w', hE', ρ1, r1, r2, r3, r4, r5⟩ := hO
        exact ⟨ρ1, w', Or.inr ⟨rcv_rel hrc hL hM, m', hE'⟩, r1, r2, r3, r4, by rw [← hM1]; exact r5⟩
      · rw [mm_big h2] at h
        cases m with
        | zero => exact h.elim
        | succ m => exact (h : False).elim
end RR
