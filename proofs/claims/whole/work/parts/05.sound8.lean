/-! the step: whatever an entry's act asks is enough for the machine -/
section AC
variable {D : va_G} {B0 : Nat} {sA : Nat → Nat} {p : Program} {l : Launch} {en : Env} {R : Room} {s : State} {m : MethodId} {args : Array Value} {below : List Frame} {meth : Method} {co : Code} {Qf : State → Prop} {nL : Nat} {mc : Cnt}
variable {own : String} {Ts : List Cond} {cc : ByteArray} {pc : Nat} {ls : List XV} {r : List XV} {V : Mem} {S : Shp} {g : Cnt}
theorem words_ac : nativeFrameWords "java/lang/System" "arraycopy" 5 ≤ 100 := by decide +kernel
theorem st_acopy (X : CTX p R s m args co nL mc own Ts cc) {idx : Nat} {n j o i q : Int} (hl : Cond.methodLink own idx arraycopyName ∈ Tb) (hR1 : 1 ≤ R.frames) (hR2 : 200 ≤ R.locals) (hct : cats r ≤ 8) (hd : decode cc pc = .ok (.invokestatic idx, 3))
    (hko : (S.1 q = 103 ∧ S.1 o = 103) ∧ (0 ≤ s32 i ∧ 0 ≤ s32 j ∧ 0 ≤ s32 n) ∧ (s32 i + s32 n ≤ S.2.1 q ∧ s32 j + s32 n ≤ S.2.1 o))
    (hk : WW D B0 sA p l en R s m args below meth co Qf nL mc (pc + 3, ls, r, cpyI V q (s32 i) o (s32 j) (s32 n), S, g)) : WW D B0 sA p l en R s m args below meth co Qf nL mc (pc, ls, (0, n) :: (0, j) :: (2, o) :: (0, i) :: (2, q) :: r, V, S, g) := by
  intro lsM H locs hC hP hL hq g1 g2
  have hP : PPx D B0 sA s V S H := hP
  obtain ⟨hx, hb, hml, hown, hts, hTb, -⟩ := X
  obtain ⟨⟨hkq, hko⟩, ⟨i0, j0, n0⟩, hiq, hjo⟩ := hko
  have htyq : kty (S.1 q) = some .long := by rw [hkq]; rfl
  have htyo : kty (S.1 o) = some .long := by rw [hko]; rfl
  obtain ⟨k1, k2, k3, k4, c0, k5, k6, k7⟩ := (hP.2.2.2 q).2.1 _ htyq
  obtain ⟨p1, p2, p3, p4, c1, p5, p6, p7⟩ := (hP.2.2.2 o).2.1 _ htyo
  have ci := clamp_eq i0
  have cj := clamp_eq j0
  have cn := clamp_eq n0
  have nn : ∀ z : Int, 0 ≤ s32 z → ¬ i32 z < 0 := fun z hz w => by have := (i32_lt0 z).mp w; omega
  show W p l en R s m args below meth co H locs g.1 g.2 Qf (F0 m pc lsM (.int (i32 n) :: .int (i32 j) :: toV sA (2, o) :: .int (i32 i) :: toV sA (2, q) :: r.map (toV sA)))
  rw [toV_ref p1, toV_ref k1]
  intro T hT X
  have hc0 : H[q.toNat]? = some (vp_cell c0 ((S.2.1 q).toNat, .inr (.inl (fun k => Int64.ofInt (V q k))))) := k7
  have hc1 : H[o.toNat]? = some (vp_cell c1 ((S.2.1 o).toNat, .inr (.inl (fun k => Int64.ofInt (V o k))))) := p7
  obtain ⟨-, k0, hk0, cm0, hkk0⟩ := k5 (S.2.1 q).toNat (fun k => .long (Int64.ofInt (V q k)))
  obtain ⟨-, kk1, hk1, cm1, hkk1⟩ := p5 (S.2.1 o).toNat (fun k => .long (Int64.ofInt (V o k)))
  obtain ⟨vm', X', step⟩ := X.arraycopy hx hown (hts _ (hTb _ hl)) (hts _ (hTb _ (tb_of ACI_ok.1))) (hts _ (hTb _ (tb_of ACI_ok.2.1))) (hts _ (hTb _ (tb_of ACI_ok.2.2))) (src := q.toNat) (dst := o.toNat) (cs := vp_cell c0 ((S.2.1 q).toNat, .inr (.inl (fun k => Int64.ofInt (V q k))))) (cd := vp_cell c1 ((S.2.1 o).toNat, .inr (.inl (fun k => Int64.ofInt (V o k))))) (srcPos := i32 i) (destPos := i32 j) (n := i32 n) (by rw [hT]; exact hc0) (by rw [hT]; exact hc1)
    (fun _ h => by cases h) (fun _ h => by cases h) (fun h => by cases h) (fun h => by cases h) hk0 hk1 hkk0 hkk1 (by simp [refKind]) (nn i i0) (nn j j0) (nn n n0)
    (by show ¬ s32 i + s32 n > ((arrV c0 (S.2.1 q).toNat (fun k => .long (Int64.ofInt (V q k)))).slots.size : Int); rw [arrV_size]; omega)
    (by show ¬ s32 j + s32 n > ((arrV c1 (S.2.1 o).toNat (fun k => .long (Int64.ofInt (V o k)))).slots.size : Int); rw [arrV_size]; omega)
    (fun vm₁ _ k hk => by
      have e : (vp_cell c0 ((S.2.1 q).toNat, .inr (.inl (fun k => Int64.ofInt (V q k))))).slots.getD ((i32 i).toNatClampNeg + k) .null = .long (Int64.ofInt (V q (((i32 i).toNatClampNeg + k : Nat) : Int))) := by
        show (arrV c0 (S.2.1 q).toNat (fun k => .long (Int64.ofInt (V q k)))).slots.getD _ _ = _
        rw [Array.getD_eq_getD_getElem?, arrV_read _ _ (by omega)]
        rfl
      refine ⟨?_, ?_⟩
      · rw [e]
        rfl
      · rw [e]
        exact trivial)
    (g := F0 m pc lsM (.int (i32 n) :: .int (i32 j) :: .ref o.toNat :: .int (i32 i) :: .ref q.toNat :: r.map (toV sA))) rfl (by rw [hml]; exact hL.mem) (rest := r.map (toV sA)) rfl (by rw [hb]; exact hd) hR1 (by
      have h4 := cats_eq sA r
      have h5 := words_ac
      show 2 * 0 + _ + _ ≤ _
      omega)
  have e1 : copied (vp_cell c0 ((S.2.1 q).toNat, .inr (.inl (fun k => Int64.ofInt (V q k))))) (vp_cell c1 ((S.2.1 o).toNat, .inr (.inl (fun k => Int64.ofInt (V o k))))) (i32 i) (i32 j) (i32 n) = vp_cell c1 ((S.2.1 o).toNat, .inr (.inl (va_cpy (fun k => Int64.ofInt (V q k)) (fun k => Int64.ofInt (V o k)) (i32 i).toNatClampNeg (i32 j).toNatClampNeg (i32 n).toNatClampNeg))) := va_copied (fun z => .long z) c0 c1 (fun k => Int64.ofInt (V q k)) (fun k => Int64.ofInt (V o k)) (by omega)
  rw [e1] at X' step
  have hl : o.toNat < H.size := (Array.getElem?_eq_some_iff.mp hc1).1
  have hheap : ((T.setVm vm').setCell o.toNat (vp_cell c1 ((S.2.1 o).toNat, .inr (.inl (va_cpy (fun k => Int64.ofInt (V q k)) (fun k => Int64.ofInt (V o k)) (i32 i).toNatClampNeg (i32 j).toNatClampNeg (i32 n).toNatClampNeg))))).heap = H.setIfInBounds o.toNat (vp_cell c1 ((S.2.1 o).toNat, .inr (.inl (va_cpy (fun k => Int64.ofInt (V q k)) (fun k => Int64.ofInt (V o k)) (i32 i).toNatClampNeg (i32 j).toNatClampNeg (i32 n).toNatClampNeg)))) := by rw [← hT]; rfl
  generalize hH1 : H.setIfInBounds o.toNat (vp_cell c1 ((S.2.1 o).toNat, .inr (.inl (va_cpy (fun k => Int64.ofInt (V q k)) (fun k => Int64.ofInt (V o k)) (i32 i).toNatClampNeg (i32 j).toNatClampNeg (i32 n).toNatClampNeg)))) = H1 at hheap
  have oq : ∀ z : Nat, z ≠ o.toNat → H1[z]? = H[z]? := fun z hz => by rw [← hH1]; simp [Array.getElem?_setIfInBounds, Ne.symm hz]
  have o1 : H1[o.toNat]? = some (vp_cell c1 ((S.2.1 o).toNat, .inr (.inl (va_cpy (fun k => Int64.ofInt (V q k)) (fun k => Int64.ofInt (V o k)) (i32 i).toNatClampNeg (i32 j).toNatClampNeg (i32 n).toNatClampNeg)))) := by rw [← hH1]; simp [Array.getElem?_setIfInBounds, hl]
  have oz : H1.size = H.size := by rw [← hH1]; simp
  have hP1 : PPx D B0 sA s (cpyI V q (s32 i) o (s32 j) (s32 n)) S H1 := by
    refine hP.put p1 p2 oz oq (fun b hb => ?_) ?_ ?_ (by rw [hko]; decide) (by rw [hko]; decide)
    · funext k
      unfold cpyI
      rw [if_neg (fun z => hb z.1)]
    · intro ci h1 h2
      rw [hko] at h1
      omega
    · intro ty hty
      rw [htyo] at hty
      cases hty
      refine ⟨p1, p2, p3, p4, c1, p5, p6, ?_⟩
      rw [o1, vp_cell_l]
      congr 2
      funext k
      show _ = Value.long (Int64.ofInt (cpyI V q (s32 i) o (s32 j) (s32 n) o k))
      congr 1
      unfold va_cpy cpyI
      by_cases hk : (i32 j).toNatClampNeg ≤ k ∧ k < (i32 j).toNatClampNeg + (i32 n).toNatClampNeg
      · rw [if_pos hk, if_pos ⟨rfl, by omega, by omega⟩]
        show Int64.ofInt (V q (((i32 i).toNatClampNeg + (k - (i32 j).toNatClampNeg) : Nat) : Int)) = Int64.ofInt (V q (s32 i + ((k : Int) - s32 j)))
        rw [show (((i32 i).toNatClampNeg + (k - (i32 j).toNatClampNeg) : Nat) : Int) = s32 i + ((k : Int) - s32 j) by omega]
      · rw [if_neg hk, if_neg (fun z => hk (by omega))]
  obtain ⟨t, a1, b1⟩ := hk lsM H1 _ (hC.kept (fun z _ hn => oq z (fun e => hn (by rw [e]; exact p2)))) hP1 hL (fun z hz => by
    rcases List.mem_append.mp hz with h | h
    · exact hq z h
    · obtain ⟨w, -, hw⟩ := List.mem_map.mp h
      rw [← hw]
      exact p2) g1 g2 _ hheap X'
  exact ⟨t, step t a1, b1⟩
end AC

