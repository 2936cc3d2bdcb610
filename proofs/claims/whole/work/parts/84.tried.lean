/-! commands: tried -/
section TRC
variable {d M : Nat} {n m a b set lo L N t0 p q : Int} {V V0 V1 W : Mem} {S : Shp} {Q : Int → Mem → Shp → Prop}
theorem pX_t (pk : Int → Int) (n : Int) : ∀ (k : Nat) (p : Int) (cs : List CL), (pX pk n k p cs).1 = true → (pX pk n k p cs).2.1 = n
  | 0, _, _ => fun q => by cases q
  | k + 1, p, cs => by
    unfold pX
    cases (pC pk p).1
    · exact fun q => by cases q
    · by_cases c2 : (pC pk p).2.1 = n
      · rw [if_pos c2]
        exact fun _ => rfl
      · rw [if_neg c2]
        by_cases c3 : k = 0
        · rw [if_pos c3]
          exact fun q => by cases q
        · rw [if_neg c3]
          by_cases c4 : pk (pC pk p).2.1 = 59
          · rw [if_pos c4]
            exact pX_t pk n k ((pC pk p).2.1 + 1) (cs ++ [(pC pk p).2.2])
          · rw [if_neg c4]
            exact fun q => by cases q
theorem MSC.u2 {x k v : Int} (h : MSC V V1) : MSC (up2 V x k v) (up2 V1 x k v) := fun p q p0 p1 n1 => up2_cg (h p q p0 p1 n1)
theorem MSC.cp (h : MSC V V1) : MSC (cpf V lo n) (cpf V1 lo n) := fun p q p0 p1 n1 => by
  unfold cpf
  by_cases c : p = 160 ∧ lo ≤ q ∧ q < lo + n
  · rw [if_pos c, if_pos c]; exact h _ _ (by omega) (by omega) (by unfold RCf; omega)
  · rw [if_neg c, if_neg c]; exact h _ _ p0 p1 n1
theorem kpa_r (q : Int) : 144 ≤ kpa q ∧ kpa q ≤ 148 := by
  unfold kpa
  by_cases c0 : q % 8 = 0
  · rw [if_pos c0]; omega
  · rw [if_neg c0]
    by_cases c1 : q % 8 = 1
    · rw [if_pos c1]; omega
    · rw [if_neg c1]
      by_cases c2 : q % 8 = 2
      · rw [if_pos c2]; omega
      · rw [if_neg c2]; omega
theorem MSC.kp (h : MSC V V1) : MSC (kpf V L) (kpf V1 L) := fun p q p0 p1 n1 => by
  unfold kpf
  by_cases c : p = 177 ∧ 0 ≤ q ∧ q < 8 * L ∧ q % 8 ≤ 3
  · have r := kpa_r q
    rw [if_pos c, if_pos c]; exact h _ _ (by omega) (by omega) (by unfold RCf; omega)
  · rw [if_neg c, if_neg c]; exact h _ _ p0 p1 n1
theorem kpa_b (h : p = 144 ∨ (146 ≤ p ∧ p ≤ 148)) (h0 : 0 ≤ q) : kpa (8 * q + pba p) = p ∧ (8 * q + pba p) / 8 = q ∧ 0 ≤ 8 * q + pba p ∧ 8 * q + pba p ≤ 8 * q + 3 ∧ (8 * q + pba p) % 8 ≤ 3 := by
  unfold kpa
  rcases (by omega : p = 144 ∨ p = 146 ∨ p = 147 ∨ p = 148) with x | x | x | x <;> subst x
  · rw [show pba 144 = 0 from by decide, if_pos (by omega)]; omega
  · rw [show pba 146 = 1 from by decide, if_neg (by omega), if_pos (by omega)]; omega
  · rw [show pba 147 = 2 from by decide, if_neg (by omega), if_neg (by omega), if_pos (by omega)]; omega
  · rw [show pba 148 = 3 from by decide, if_neg (by omega), if_neg (by omega), if_neg (by omega)]; omega
/-- the model's memory as its trial begins -/
def tryM (V : Mem) (N t0 L : Int) : Mem := kpf (up2 (up2 (cpf (up2 V 161 10 N) 1000 N) 159 10 t0) 137 45 1) L
theorem tryM_ne (h1 : p ≠ 177) (h2 : ¬ (p = 137 ∧ q = 45)) (h3 : ¬ (p = 159 ∧ q = 10)) (h4 : ¬ (p = 161 ∧ q = 10)) (h5 : ¬ (p = 160 ∧ 1000 ≤ q ∧ q < 1000 + N)) : tryM V N t0 L p q = V p q := by
  unfold tryM
  rw [kpf_ne (by omega), up2_ne (by omega), up2_ne (by omega), cpf_ne (by omega), up2_ne (by omega)]
theorem tryM_10 : tryM V N t0 L 161 10 = N ∧ tryM V N t0 L 159 10 = t0 ∧ tryM V N t0 L 137 45 = 1 := by
  unfold tryM
  refine ⟨?_, ?_, ?_⟩
  · rw [kpf_ne (by omega), up2_ne (by omega), up2_ne (by omega), cpf_ne (by omega), up2_eq rfl rfl]
  · rw [kpf_ne (by omega), up2_ne (by omega), up2_eq rfl rfl]
  · rw [kpf_ne (by omega), up2_eq rfl rfl]
theorem tryM_160 (h0 : 0 ≤ p) (h1 : p < N) : tryM V N t0 L 160 (1000 + p) = V 160 (1100 + p) := by
  unfold tryM
  rw [kpf_ne (by omega), up2_ne (by omega), up2_ne (by omega), cpf_eq (by omega) (by omega), up2_ne (by omega), show 1100 + (1000 + p - 1000) = 1100 + p from by omega]
theorem tryM_177 (h0 : 0 ≤ q) (h1 : q < L) (h : p = 144 ∨ (146 ≤ p ∧ p ≤ 148)) : tryM V N t0 L 177 (8 * q + pba p) = V p q := by
  obtain ⟨k1, k2, k3, k4, k5⟩ := kpa_b h h0
  unfold tryM
  rw [kpf_eq k3 (by omega) k5, k1, k2, up2_ne (by omega), up2_ne (by omega), cpf_ne (by omega), up2_ne (by omega)]
theorem MSC.ty (h : MSC V V1) : MSC (tryM V N t0 L) (tryM V1 N t0 L) := MSC.kp (MSC.u2 (MSC.u2 (MSC.cp (MSC.u2 h))))
theorem pkM_lo {u k : Int} (h : ∀ p, p < k → V1 160 (100 * u + p) = V 160 (100 * u + p)) : pkM V1 (100 * u) k = pkM V (100 * u) k := by
  funext p
  unfold pkM
  by_cases c : p < k
  · rw [if_pos c, if_pos c]; exact h p c
  · rw [if_neg c, if_neg c]
/-- the model's texts with the draft as text 10 -/
theorem tryTM (h : INV n V0 S) (hN : 0 ≤ N ∧ N ≤ 100) (ht : 0 ≤ t0 ∧ t0 ≤ 599) (hb : ∀ p, 0 ≤ p → p < N → -128 ≤ V0 160 (1100 + p) ∧ V0 160 (1100 + p) < 128) (c : (pX (pkM (tryM V0 N t0 L) 1000 N) N 8 0 []).1 = true) : TM (tryM V0 N t0 L) true ∧ ∀ u, 0 ≤ u → u < V0 137 24 → (tryM V0 N t0 L 159 u = V0 159 u ∧ csM (tryM V0 N t0 L) u = csM V0 u) := by
  obtain ⟨h1, h2, h3, -⟩ := h.tm
  obtain ⟨e1, e2, e3⟩ := tryM_10 (V := V0) (N := N) (t0 := t0) (L := L)
  have e24 : tryM V0 N t0 L 137 24 = V0 137 24 := tryM_ne (by omega) (by omega) (by omega) (by omega) (by omega)
  have eu : ∀ u, 0 ≤ u → u < V0 137 24 → tryM V0 N t0 L 161 u = V0 161 u ∧ tryM V0 N t0 L 159 u = V0 159 u ∧ pkM (tryM V0 N t0 L) (100 * u) (V0 161 u) = pkM V0 (100 * u) (V0 161 u) ∧ ∀ p, p < V0 161 u → tryM V0 N t0 L 160 (100 * u + p) = V0 160 (100 * u + p) := fun u u0 u1 => by
    have g := (h2 u u0 u1).2.2.1
    have k : ∀ p, p < V0 161 u → tryM V0 N t0 L 160 (100 * u + p) = V0 160 (100 * u + p) := fun p hp => tryM_ne (by omega) (by omega) (by omega) (by omega) (by omega)
    exact ⟨tryM_ne (by omega) (by omega) (by omega) (by omega) (by omega), tryM_ne (by omega) (by omega) (by omega) (by omega) (by omega), pkM_lo k, k⟩
  refine ⟨⟨by rw [e24]; exact h1, fun u u0 u1 => ?_, e3, fun _ => ?_⟩, fun u u0 u1 => ?_⟩
  · rw [e24] at u1
    obtain ⟨x1, x2, x3, x4⟩ := eu u u0 u1
    obtain ⟨g1, g2⟩ := h2 u u0 u1
    unfold GOODM
    rw [x1, x2, x3]
    exact ⟨fun p p0 p1 => by rw [x4 p p1]; exact g1 p p0 p1, g2⟩
  · have e : (100 * 10 : Int) = 1000 := by omega
    unfold GOODM
    rw [e1, e2, e]
    exact ⟨fun p p0 p1 => by rw [tryM_160 p0 p1]; exact hb p p0 p1, ht, hN, c, pX_t _ _ 8 0 [] c⟩
  · obtain ⟨x1, x2, x3, x4⟩ := eu u u0 u1
    refine ⟨x2, ?_⟩
    unfold csM
    rw [x1, x3]
end TRC
section TRF
variable {d M : Nat} {n m set t0 t L N : Int} {V V0 V1 V' V2' Vm' W' : Mem} {S : Shp}
/-- the invariant behind a trial, from what its days left -/
theorem tryFin (hi : INV n V0 S) (hn : n ≤ m) (v0 : V0 137 0 = t0) (v2 : V0 137 2 = L) (hM : (M : Int) = V0 137 24) (hst : TSB V0 (tryM V0 N t0 L) V' Vm' V2' S M set t0 t) (hq : ∀ q, Vm' 177 q = tryM V0 N t0 L 177 q) (eW : MSC Vm' W') (o1 : W' 106 3 = 0) (o2 : ∀ p q, ¬ (137 ≤ p ∧ p ≤ 199) → ¬ (p = 106 ∧ q = 3) → W' p q = V2' p q) : INV m (up2 (pbf (up2 W' 137 0 t0) L) 137 45 0) S := by
  obtain ⟨⟨-, z1⟩, z2, -, -, -, -, ⟨-, z4⟩⟩ := hst
  have v45 : V0 137 45 = 0 := hi.2.2.2.2.1.2.1
  have v106 : V0 106 3 = 0 := hi.2.2.2.2.1.1
  refine tryEnd hi hn v0 (fun p q hw => ?_)
  rw [← hM] at hw
  by_cases c1 : p = 137 ∧ q = 45
  · rw [up2_eq c1.1 c1.2, c1.1, c1.2, v45]
  · rw [up2_ne (by omega)]
    by_cases c2 : (p = 144 ∨ (146 ≤ p ∧ p ≤ 148)) ∧ 0 ≤ q ∧ q < L
    · rw [pbf_eq c2, up2_ne (by omega), eW _ _ (by omega) (by omega) (by unfold RCf; omega), hq]
      exact tryM_177 c2.2.1 c2.2.2 c2.1
    · rw [pbf_ne c2]
      by_cases c3 : p = 137 ∧ q = 0
      · rw [up2_eq c3.1 c3.2, c3.1, c3.2, v0]
      · rw [up2_ne (by omega)]
        by_cases c4 : 137 ≤ p ∧ p ≤ 199
        · have nr : ¬ RCf p q := by unfold RCf; omega
          have k := z2 p q c4.1 c4.2 nr
          rw [v2] at k
          exact (eW p q c4.1 c4.2 nr).trans (k (by omega) (by omega) (by omega) (by omega) (by omega))
        · by_cases c5 : p = 106 ∧ q = 3
          · rw [c5.1, c5.2, o1, v106]
          · rw [o2 p q c4 c5, z4 p q c4 (by omega)]
            exact z1 p q c4 (by omega) (by omega) (by unfold TA; omega)
/-- how a trial's days begin -/
theorem tryIni (hi : INV n V0 S) (hM : (M : Int) = V0 137 24) (hVc : FV V1) (v0 : V0 137 0 = t0) (v2 : V0 137 2 = L) (L20 : L ≤ 20) (cne : ∀ p q, ¬ (137 ≤ p ∧ p ≤ 199) → ¬ (1000 ≤ p ∧ p < 1200 ∧ p % 10 = 2 ∧ q ≤ 3) → ¬ (p = 106 ∧ q = 3) → ¬ (p = TA (M : Int) ∧ q = 0) → V1 p q = V0 p q) (hT : TCT V1 S M (DyT (tryM V0 N t0 L) M) (CTT (tryM V0 N t0 L) M) true) (cb : ∀ j k, 0 ≤ j → j < L → 0 ≤ k → k ≤ 3 → V1 (1002 + 10 * j) k = V0 (1001 + 10 * j) k) : N ≤ 100 → TSB V0 (tryM V0 N t0 L) V1 (tryM V0 N t0 L) V1 S M set t0 t0 := by
  intro hN
  refine ⟨⟨hVc, fun p q n1 n2 n3 n4 => cne p q n1 n2 (by omega) n4⟩, fun p q p0 p1 n1 n2 n3 n4 n5 n6 => tryM_ne n6 (by omega) (by omega) (by omega) (by omega), (tryM_ne (by omega) (by omega) (by omega) (by omega) (by omega)).trans v0, hT, fun _ _ _ => rfl, fun j j0 j1 => ?_, hVc, fun _ _ _ _ => rfl⟩
  rw [v2] at j1
  exact LMP.ini hi v0 j0 (by omega) (fun k k0 k1 => cb j k j0 j1 k0 k1) (fun p k p0 p1 => tryM_ne (by omega) (by omega) (by omega) (by omega) (by omega))
end TRF
section TRG
variable {d : Nat} {n m a set N L M24 t0 : Int} {V V1 : Mem} {S : Shp}
theorem dfT_c (hM : V 137 24 = M24) (M0 : 0 ≤ M24) (h20 : L ≤ 20) {p q : Int} (n1 : ¬ (1000 ≤ p ∧ p < 1200 ∧ p % 10 = 2 ∧ q ≤ 3)) (n2 : ¬ (p = 106 ∧ q = 3)) (n3 : ¬ (p = TA M24 ∧ q = 0)) : cpb (dfT V V1) L p q = V1 p q := by
  rw [cpb_ne (by omega)]
  unfold dfT
  rw [hM, up2_ne (by omega), up2_ne (by omega)]
theorem dfT_b (hM : V 137 24 = M24) (M0 : 0 ≤ M24) {j k : Int} (j0 : 0 ≤ j) (j1 : j < L) (h20 : L ≤ 20) (k0 : 0 ≤ k) (k1 : k ≤ 3) : cpb (dfT V V1) L (1002 + 10 * j) k = V1 (1001 + 10 * j) k := by
  rw [cpb_eq (by omega), show 1002 + 10 * j - 1 = 1001 + 10 * j from by omega]
  unfold dfT TA
  rw [hM, up2_ne (by omega), up2_ne (by omega)]
/-- the component's and the model's texts as a trial begins -/
theorem tryTX (hi : INV n (up2 (up2 V1 161 11 N) 137 25 0) S) (hM : V 137 24 = M24) (ht : V 137 0 = t0) (mq : ∀ p q, 137 ≤ p → p ≤ 199 → V1 p q = V p q) (hV1 : FV V1) (hN : 0 ≤ N ∧ N ≤ 100) (n10 : 0 ≤ M24 ∧ M24 ≤ 10) (n599 : 0 ≤ t0 ∧ t0 ≤ 599) (h20 : 0 ≤ L ∧ L ≤ 20) (hb : ∀ p, 0 ≤ p → p < N → -128 ≤ V 160 (1100 + p) ∧ V 160 (1100 + p) < 128) (c : (pX (pkd V 1000 N) N 8 0 []).1 = true) (hX : TXC V1 M24 (pX (pkd V 1000 N) N 8 0 []).2.2) :
    TM (tryM (up2 (up2 V1 161 11 N) 137 25 0) N t0 L) true ∧ FV (cpb (dfT V V1) L) ∧ TCT (cpb (dfT V V1) L) S M24.toNat (DyT (tryM (up2 (up2 V1 161 11 N) 137 25 0) N t0 L) M24.toNat) (CTT (tryM (up2 (up2 V1 161 11 N) 137 25 0) N t0 L) M24.toNat) true := by
  have w0 : ∀ p q, ¬ (p = 161 ∧ q = 11) → ¬ (p = 137 ∧ q = 25) → (up2 (up2 V1 161 11 N) 137 25 0) p q = V1 p q := fun p q n1 n2 => by rw [up2_ne (by omega), up2_ne (by omega)]
  generalize hV0 : up2 (up2 V1 161 11 N) 137 25 0 = V0 at hi w0
  have v24 : V0 137 24 = M24 := (w0 _ _ (by omega) (by omega)).trans ((mq _ _ (by omega) (by omega)).trans hM)
  have hMn : ((M24.toNat : Nat) : Int) = M24 := by omega
  have hTA : TA M24 = 108 + 5000 * M24 := rfl
  have ePK : pkM (tryM V0 N t0 L) 1000 N = pkd V 1000 N := pkd_e (fun p p0 p1 => by rw [tryM_160 p0 p1, w0 _ _ (by omega) (by omega)]; exact mq _ _ (by omega) (by omega)) (fun p p0 => by rw [tryM_ne (by omega) (by omega) (by omega) (by omega) (by omega), w0 _ _ (by omega) (by omega)]; exact mq _ _ (by omega) (by omega))
  obtain ⟨hTM, hTW⟩ := tryTM (L := L) hi hN n599 (fun p p0 p1 => by rw [w0 _ _ (by omega) (by omega), mq _ _ (by omega) (by omega)]; exact hb p p0 p1) (by rw [ePK]; exact c)
  obtain ⟨y1, y2, y3⟩ := tryM_10 (V := V0) (N := N) (t0 := t0) (L := L)
  have eCS : csM (tryM V0 N t0 L) 10 = (pX (pkd V 1000 N) N 8 0 []).2.2 := by
    unfold csM
    rw [y1, show (100 * 10 : Int) = 1000 from by omega, ePK]
  have cne : ∀ p q, ¬ (1000 ≤ p ∧ p < 1200 ∧ p % 10 = 2 ∧ q ≤ 3) → ¬ (p = 106 ∧ q = 3) → ¬ (p = TA M24 ∧ q = 0) → cpb (dfT V V1) L p q = V1 p q := fun p q n1 n2 n3 => dfT_c hM n10.1 h20.2 n1 n2 n3
  have hVc : FV (cpb (dfT V V1) L) := hV1.fr (fun p q hd => cne p q (by unfold VD at hd; omega) (by unfold VD at hd; omega) (by unfold VD at hd; omega))
  have c3 : cpb (dfT V V1) L 106 3 = 1 := by rw [cpb_ne (by omega)]; unfold dfT; exact up2_eq rfl rfl
  have cd : cpb (dfT V V1) L (TA M24) 0 = t0 := by rw [cpb_ne (by omega)]; unfold dfT; rw [hM, up2_ne (by omega), up2_eq rfl rfl]; exact ht
  have cX : TXC (cpb (dfT V V1) L) M24 (csM (tryM V0 N t0 L) 10) := by
    obtain ⟨w1, w2, w3⟩ := hX
    rw [eCS]
    refine ⟨(cne _ _ (by omega) (by omega) (by omega)).trans w1, w2, fun i hi => ?_⟩
    exact CLTx.eq (w3 i hi) (fun k => cne _ _ (by omega) (by omega) (by omega)) (fun k => cne _ _ (by omega) (by omega) (by omega)) (fun k => cne _ _ (by omega) (by omega) (by omega)) (fun k => cne _ _ (by omega) (by omega) (by omega))
  refine ⟨hTM, hVc, ?_⟩
  refine tctT hi (by rw [hMn, v24]) hVc (fun p q n1 n2 n3 n4 => ?_) c3 ?_ (by rw [y2]; exact n599) (by rw [hMn]; exact cX) (fun u u0 u1 => hTW u u0 (by omega))
  · rw [hMn] at n4
    rw [w0 _ _ (by omega) (by omega)]
    exact cne p q (by omega) (by omega) n4
  · rw [hMn, y2]; exact cd
end TRG
section TRD
variable {d : Nat} {n m a set : Int} {V : Mem} {S : Shp}
theorem cmd_tried (h : INV n V S) (hn : n ≤ m) (hm : n ≤ 40000) (hs : s32 set = set) (ha : s32 a = a) : C_x_tried (d + 40) 100 set a V S (fun r V1 S1 => C_m_tried (d + 40) 137 set a V1 S1 (fun r' V2 S2 => r = r' ∧ INV m V2 S2)) := by
  have hup := h.up hn
  have hk := h.1
  have hS := hk.1
  have hV := hk.2.1
  have n10 := hk.n10
  have n20 := hk.n20
  have n599 := hk.n599
  have l20 := hk.2.2.1.2.1.2.1
  have c11 := hk.2.2.1.2.1.1
  have hr : RDR V := h.2.2.2.2.2.1
  have hush := ush0 (a := set) (L := V 137 2) hs l20 n20
  have hsl : ishlI 1 (V 137 2) ≤ 1048576 ∧ 1 ≤ ishlI 1 (V 137 2) := by
    obtain ⟨k, hk⟩ := Int.eq_ofNat_of_zero_le l20
    rw [hk, shl_c ⟨k, by omega⟩]
    have hp : 2 ^ k ≤ 2 ^ 20 := Nat.pow_le_pow_right (n := 2) (by decide) (by omega)
    have hp : 2 ^ k ≤ 1048576 := hp
    have hp0 : 0 < 2 ^ k := Nat.two_pow_pos k
    show ((2 ^ k : Nat) : Int) ≤ 1048576 ∧ 1 ≤ ((2 ^ k : Nat) : Int)
    omega
  by_cases h0 : 0 ≤ set ∧ set ≤ ishlI 1 (V 137 2) - 1
  · by_cases h1 : 1 ≤ a ∧ a ≤ 60
    · have hL : 0 ≤ V 137 2 ∧ V 137 2 ≤ 20 := ⟨l20, n20⟩
      refine X_tried (d := d) h hs ha h0 h1 (fun V1 f1 f2 c => ?_) (fun V1 f1 f2 c hX u5 u6 => ?_)
      · have mq : MEQ V V1 := fun p q p0 p1 => f1 p q (by omega) (by unfold TA; omega) (by unfold TA; omega)
        exact M_tried (d := d) hS (f1.fv hV n10.1 n10.2) hs ha hL h0 h1 hr mq (fun _ V' f => ⟨rfl, INV.rr (h.read f1 f2) f.rr hn⟩) (fun q => (by rw [q] at c; cases c))
      · have hi : INV n (up2 (up2 V1 161 11 (V 137 25)) 137 25 0) S := h.read f1 f2
        have hTA : TA (V 137 24) = 108 + 5000 * V 137 24 := rfl
        have mq : ∀ p q, 137 ≤ p → p ≤ 199 → V1 p q = V p q := fun p q p0 p1 => f1 p q (by omega) (by omega) (by omega)
        have hV1 : FV V1 := f1.fv hV n10.1 n10.2
        obtain ⟨⟨r1, r2, r3⟩, r4⟩ := id hr
        generalize hNN : V 137 25 = N at *
        generalize hLL : V 137 2 = L at *
        generalize hMM : V 137 24 = M24 at *
        generalize htt : V 137 0 = t0 at *
        obtain ⟨hTM, hVc, hT⟩ := tryTX (L := L) hi hMM htt mq hV1 ⟨r2, r3⟩ n10 n599 ⟨l20, n20⟩ (fun p p0 p1 => (r4 p p0 p1).2) c hX
        have w0 : ∀ p q, ¬ (p = 161 ∧ q = 11) → ¬ (p = 137 ∧ q = 25) → (up2 (up2 V1 161 11 N) 137 25 0) p q = V1 p q := fun p q n1 n2 => by rw [up2_ne (by omega), up2_ne (by omega)]
        have cne : ∀ p q, ¬ (1000 ≤ p ∧ p < 1200 ∧ p % 10 = 2 ∧ q ≤ 3) → ¬ (p = 106 ∧ q = 3) → ¬ (p = TA M24 ∧ q = 0) → cpb (dfT V V1) L p q = V1 p q := fun p q n1 n2 n3 => dfT_c hMM n10.1 n20 n1 n2 n3
        have cb : ∀ j k, 0 ≤ j → j < L → 0 ≤ k → k ≤ 3 → cpb (dfT V V1) L (1002 + 10 * j) k = V1 (1001 + 10 * j) k := fun j k j0 j1 k0 k1 => dfT_b hMM n10.1 j0 j1 n20 k0 k1
        generalize hVc2 : cpb (dfT V V1) L = Vc at hVc hT cne cb ⊢
        generalize hV0 : up2 (up2 V1 161 11 N) 137 25 0 = V0 at hi w0 hTM hT
        have v0 : V0 137 0 = t0 := (w0 _ _ (by omega) (by omega)).trans ((mq _ _ (by omega) (by omega)).trans htt)
        have v2 : V0 137 2 = L := (w0 _ _ (by omega) (by omega)).trans ((mq _ _ (by omega) (by omega)).trans hLL)
        have v24 : V0 137 24 = M24 := (w0 _ _ (by omega) (by omega)).trans ((mq _ _ (by omega) (by omega)).trans hMM)
        have hMn : ((M24.toNat : Nat) : Int) = M24 := by omega
        have hst : TSB V0 (tryM V0 N t0 L) Vc (tryM V0 N t0 L) Vc S M24.toNat set t0 t0 := tryIni hi (by rw [hMn, v24]) hVc v0 v2 n20 (fun p q n1 n2 n3 n4 => by rw [hMn] at n4; rw [w0 p q (by omega) (by omega)]; exact cne p q n2 n3 n4) hT (fun j k j0 j1 k0 k1 => (cb j k j0 j1 k0 k1).trans (w0 _ _ (by omega) (by omega)).symm) r3
        have hW24 : ((M24.toNat : Nat) : Int) = tryM V0 N t0 L 137 24 := by rw [hMn]; exact ((tryM_ne (by omega) (by omega) (by omega) (by omega) (by omega)).trans v24).symm
        have l1 : lsT V a ≤ 599 ∧ lsT V a ≤ t0 + a - 1 ∧ (lsT V a = 599 ∨ lsT V a = t0 + a - 1) := by
          unfold lsT
          rw [htt]
          by_cases cl : t0 + a - 1 < 599
          · rw [if_pos cl]; omega
          · rw [if_neg cl]; omega
        obtain ⟨l1, l2, l3⟩ := l1
        generalize lsT V a = last at l1 l2 l3 ⊢
        obtain ⟨R, V', Vm', V2', hst', hq, hm2, kX, kM⟩ := triDays (d + 23) hi hm v0 (by omega) hTM hW24 (fun t => nbT_b hT hW24 t) l1 l2 l3 h1 (last + 1 - t0).toNat t0 0 0 _ _ _ (by omega) (by omega) (Int.le_refl _) hst
        refine kX _ (0, 0) u5 u6 ?_
        have hV2' : FV V2' := hst'.2.2.2.2.2.2.1
        have z2 := hst'.2.1
        have e4 : V2' 100 4 = 106 := hV2'.r100_4
        rw [e4]
        simp only [hS.k100, hS.k106, I_Terms_endTry, forall_eq, b_s32, b_eq0, b_01, l0, l1, true_and, and_true, and_self, true_implies, false_implies, implies_true, forall_const, not_true_eq_false, not_false_eq_true, reduceIte, ite_true, ite_false, reduceCtorEq, forall_eq, Classical.not_not, true_or, or_true, false_or, or_false, and_false, false_and, Int.reduceEq, Int.reduceLT, Int.reduceLE, Int.reduceAdd, Int.reduceSub, Int.reduceMul, Int.reduceNeg]
        have hV3 : FV (up2 V2' 106 3 0) := hV2'.fr (fun p q hd => up2_ne (by unfold VD at hd; omega))
        have mq2 : ∀ p q, 137 ≤ p → p ≤ 199 → V2' p q = V1 p q := fun p q p0 p1 => by
          rw [hm2 p q p0 p1, cne p q (by omega) (by omega) (by unfold TA; omega)]
        have mq3 : MEQ V (up2 V2' 106 3 0) := fun p q p0 p1 => by
          rw [up2_ne (by omega), mq2 p q p0 p1]
          exact mq p q p0 p1
        have hL' : 0 ≤ V 137 2 ∧ V 137 2 ≤ 20 := by rw [hLL]; exact ⟨l20, n20⟩
        have h0' : 0 ≤ set ∧ set ≤ ishlI 1 (V 137 2) - 1 := by rw [hLL]; exact h0
        refine M_tried (d := d) hS hV3 hs ha hL' h0' h1 hr mq3 (fun q => (by rw [hNN] at q; rw [q] at c; cases c)) (fun _ _ V3 f u6 u7 => ?_)
        rw [hNN] at f
        rw [hNN, htt, hLL]
        have hf : ∀ p q, ¬ GCf p q → ¬ (p = 161 ∧ q = 11) → ¬ (p = 137 ∧ q = 25) → ¬ (p = 106 ∧ q = 3) → V3 p q = V2' p q := fun p q n1 n2 n3 n4 => by
          rw [f p q n1, up2_ne (by omega), up2_ne (by omega), up2_ne (by omega)]
        have hf3 : V3 106 3 = 0 := by rw [f 106 3 (by unfold GCf; omega), up2_ne (by omega), up2_ne (by omega), up2_eq rfl rfl]
        have eV : MSC V0 V3 := fun p q p0 p1 n1 => by
          rw [f p q (by unfold RCf at n1; unfold GCf; omega), ← hV0]
          refine up2_cg (up2_cg ?_)
          rw [up2_ne (by omega), mq2 p q p0 p1]
        have hV3' : FV V3 := hV2'.fr (fun p q hd => hf p q (by unfold VD at hd; unfold GCf; omega) (by unfold VD at hd; omega) (by unfold VD at hd; omega) (by unfold VD at hd; omega))
        clear f mq mq2 mq3 r4 cne cb w0
        have hW : FV (tryM V3 N t0 L) := hV3'.fr (fun p q hd => tryM_ne (by unfold VD at hd; omega) (by unfold VD at hd; omega) (by unfold VD at hd; omega) (by unfold VD at hd; omega) (by unfold VD at hd; omega))
        refine kM (tryM V3 N t0 L) _ (0, 0) u6 u7 hW eV.ty (fun W' hW' eW' sW' => ?_)
        have x2 : W' 137 2 = L := (eW' _ _ (by omega) (by omega) (by unfold RCf; omega)).trans ((z2 _ _ (by omega) (by omega) (by unfold RCf; omega) (by omega) (by omega) (by omega) (by omega) (by omega)).trans v2)
        rw [I_m_putBack]
        have hWt : FV (up2 W' 137 0 t0) := hW'.fr (fun p q hd => up2_ne (by unfold VD at hd; omega))
        refine ⟨hS.k137, ?_⟩
        have kb := fun (U : Mem → Shp → Prop) (hU : U (pbf (up2 W' 137 0 t0) L) S) => m_back_l (d := d + 38) (g := (0, 0)) (V := up2 W' 137 0 t0) (L := L) (U := U) hS hWt ⟨(up2_ne (by omega)).trans x2, l20, n20⟩ hU L.toNat 0 (by omega) (Int.le_refl _)
        rw [pbf_0] at kb
        refine kb _ ⟨⟨hS.k137, Or.inl l0⟩, fun V4 e4 => ⟨rfl, ?_⟩⟩
        rw [e4]
        exact tryFin hi hn v0 v2 (by rw [hMn, v24]) hst' (fun q => (hq q).1) eW' ((sW' _ _ (by omega)).trans ((tryM_ne (by omega) (by omega) (by omega) (by omega) (by omega)).trans hf3)) (fun p q c4 c5 => (sW' p q c4).trans ((tryM_ne (by omega) (by omega) (by omega) (by omega) (by omega)).trans (hf p q (by unfold GCf; omega) (by omega) (by omega) c5)))
    · have e1 := hush.mpr h0
      simp (disch := omega) only [I_x_tried, I_m_tried, p_isWithin, r_in hS, hs, ha, h0, h1, hS.k100, hS.k137, c11, e1, s32_id (x := 0), s32_id (x := 1), s32_id (x := 60), s32_id (x := ishlI 1 (V 137 2) - 1), hup, b_s32, b_eq0, b_01, l0, l1, true_and, and_true, and_self, true_implies, false_implies, implies_true, forall_const, not_true_eq_false, not_false_eq_true, reduceIte, ite_true, ite_false, reduceCtorEq, forall_eq, Classical.not_not, true_or, or_true, false_or, or_false, and_false, false_and, Int.reduceEq, Int.reduceLT, Int.reduceLE, Int.reduceAdd, Int.reduceSub, Int.reduceMul, Int.reduceNeg]
  · have e1 : ¬ s32 (iushrI set (V 137 2)) = 0 := fun q => h0 (hush.mp q)
    simp (disch := omega) only [I_x_tried, I_m_tried, r_in hS, hs, ha, h0, hS.k100, hS.k137, c11, e1, s32_id (x := 0), s32_id (x := ishlI 1 (V 137 2) - 1), hup, b_s32, b_eq0, b_01, l0, l1, true_and, and_true, and_self, true_implies, false_implies, implies_true, forall_const, not_true_eq_false, not_false_eq_true, reduceIte, ite_true, ite_false, reduceCtorEq, forall_eq, Classical.not_not, true_or, or_true, false_or, or_false, and_false, false_and, Int.reduceEq, Int.reduceLT, Int.reduceLE, Int.reduceAdd, Int.reduceSub, Int.reduceMul, Int.reduceNeg]
end TRD
