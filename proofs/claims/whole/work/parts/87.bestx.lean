/-! commands: best, purely and by the component -/
abbrev BST : Type := Int × List Nat
def rwA : List Nat → Nat → Int
  | [], _ => 0
  | h :: P, j => if j = P.length then (h : Int) else rwA P j
def bup (B : BST) (c : Int) (P : List Nat) : BST := if B.1 < c ∨ (c = B.1 ∧ P.length < B.2.length) then (c, P) else B
def pxA (X : Int → Int) : List Nat → Int
  | [] => 0
  | h :: _ => X (h : Int)
def abI (x : Int) : Int := if x < 0 then -x else x
def wyA (X Y : Int → Int) (P : List Nat) (h : Nat) : Int := abI (X (h : Int) - pxA X P) + abI (Y (h : Int) - pxA Y P)
def wlp (f : Nat → BST → BST) : Nat → Nat → BST → BST
  | 0, _, B => B
  | N + 1, h, B => wlp f N (h + 1) (f h B)
def wsr (n s : Nat) (X Y C : Int → Int) : Nat → List Nat → Int → Int → BST → BST
  | 0, P, _, c, B => bup B c P
  | k + 1, P, r, c, B => wlp (fun h B => if s.testBit h = true ∧ h ∉ P ∧ wyA X Y P h ≤ r then wsr n s X Y C k (h :: P) (r - wyA X Y P h) (c + C (h : Int)) B else B) n 0 (bup B c P)
def wfA (n s : Nat) (X Y C : Int → Int) (k : Nat) (P : List Nat) (r c : Int) : Nat → BST → BST := fun h B => if s.testBit h = true ∧ h ∉ P ∧ wyA X Y P h ≤ r then wsr n s X Y C k (h :: P) (r - wyA X Y P h) (c + C (h : Int)) B else B
theorem wsr_s (n s : Nat) (X Y C : Int → Int) (k : Nat) (P : List Nat) (r c : Int) (B : BST) : wsr n s X Y C (k + 1) P r c B = wlp (wfA n s X Y C k P r c) n 0 (bup B c P) := rfl
theorem wsr_0 (n s : Nat) (X Y C : Int → Int) (P : List Nat) (r c : Int) (B : BST) : wsr n s X Y C 0 P r c B = bup B c P := rfl
theorem wfA_t {n s : Nat} {X Y C : Int → Int} {k : Nat} {P : List Nat} {r c : Int} {h : Nat} {B : BST} (e : s.testBit h = true ∧ h ∉ P ∧ wyA X Y P h ≤ r) : wfA n s X Y C k P r c h B = wsr n s X Y C k (h :: P) (r - wyA X Y P h) (c + C (h : Int)) B := if_pos e
theorem wfA_f {n s : Nat} {X Y C : Int → Int} {k : Nat} {P : List Nat} {r c : Int} {h : Nat} {B : BST} (e : ¬ (s.testBit h = true ∧ h ∉ P ∧ wyA X Y P h ≤ r)) : wfA n s X Y C k P r c h B = B := if_neg e
theorem wlp_s (f : Nat → BST → BST) (N h : Nat) (B : BST) : wlp f (N + 1) h B = wlp f N (h + 1) (f h B) := rfl
theorem pcn_s : ∀ k x : Nat, pcn (k + 1) x = pcn k x + (if x.testBit k = true then 1 else 0)
  | 0, x => by
    show x % 2 + 0 = 0 + (if x.testBit 0 = true then 1 else 0)
    have e := Nat.testBit_zero x
    by_cases c : x % 2 = 1
    · rw [if_pos (by rw [e]; exact decide_eq_true c)]; omega
    · rw [if_neg (by rw [e]; intro z; exact c (of_decide_eq_true z))]; omega
  | k + 1, x => by
    have ih := pcn_s k (x / 2)
    show x % 2 + pcn (k + 1) (x / 2) = x % 2 + pcn k (x / 2) + _
    rw [ih, Nat.testBit_succ]
    omega
theorem pcn_m (x : Nat) : ∀ N k : Nat, pcn k x ≤ pcn (k + N) x
  | 0, k => Nat.le_refl _
  | N + 1, k => by
    have ih := pcn_m x N k
    have q := pcn_s (k + N) x
    show pcn k x ≤ pcn (k + N + 1) x
    omega
theorem pcn_u {s h h0 : Nat} (a : s.testBit h = true) (b : s.testBit h0 = true) (e : pcn h s = pcn h0 s) : h = h0 := by
  have g : ∀ x y : Nat, s.testBit x = true → x < y → pcn x s < pcn y s := fun x y hx hxy => by
    have q := pcn_s x s
    rw [if_pos hx] at q
    have m := pcn_m s (y - (x + 1)) (x + 1)
    rw [show x + 1 + (y - (x + 1)) = y from by omega] at m
    omega
  rcases Nat.lt_trichotomy h h0 with l | l | l
  · have := g h h0 a l; omega
  · exact l
  · have := g h0 h b l; omega
theorem abI_r {x : Int} (h0 : -100 ≤ x) (h1 : x ≤ 100) : 0 ≤ abI x ∧ abI x ≤ 100 := by
  unfold abI
  by_cases c : x < 0
  · rw [if_pos c]; omega
  · rw [if_neg c]; omega
section BE
variable {d : Nat} {V V0 : Mem} {S : Shp} {Q : Int → Mem → Shp → Prop} {U : Mem → Shp → Prop}
theorem q_absI {x : Int} (h0 : -100 ≤ x) (h1 : x ≤ 100) : C_Math_abs_I (d + 1) x V S Q ↔ Q (abI x) V S := by
  rw [p_abs, s32_id (by omega) (by omega)]
  exact Iff.rfl
theorem r_absI {x : Int} (hS : FS S) (h0 : -100 ≤ x) (h1 : x ≤ 100) : C_m_abs (d + 1) 137 x V S Q ↔ Q (abI x) V S := by
  unfold abI
  by_cases c : x < 0
  · rw [if_pos c]; simp (disch := omega) only [I_m_abs, hS.k137, s32_id, c, b_s32, b_eq0, b_01, l0, l1, true_and, and_true, and_self, true_implies, false_implies, implies_true, forall_const, not_true_eq_false, not_false_eq_true, reduceIte, ite_true, ite_false, reduceCtorEq, forall_eq, Classical.not_not, true_or, or_true, false_or, or_false, and_false, false_and, Int.reduceEq, Int.reduceLT, Int.reduceLE, Int.reduceAdd, Int.reduceSub, Int.reduceMul, Int.reduceNeg]
  · rw [if_neg c]; simp (disch := omega) only [I_m_abs, hS.k137, s32_id, c, b_s32, b_eq0, b_01, l0, l1, true_and, and_true, and_self, true_implies, false_implies, implies_true, forall_const, not_true_eq_false, not_false_eq_true, reduceIte, ite_true, ite_false, reduceCtorEq, forall_eq, Classical.not_not, true_or, or_true, false_or, or_false, and_false, false_and, Int.reduceEq, Int.reduceLT, Int.reduceLE, Int.reduceAdd, Int.reduceSub, Int.reduceMul, Int.reduceNeg]
/-- homes' places -/
def XYR (n : Nat) (X : Int → Int) : Prop := ∀ h : Nat, h < n → 0 ≤ X (h : Int) ∧ X (h : Int) ≤ 99
theorem pxA_r {n : Nat} {X : Int → Int} (h : XYR n X) {P : List Nat} (hP : ∀ x ∈ P, x < n) : 0 ≤ pxA X P ∧ pxA X P ≤ 99 := by
  cases P with
  | nil => exact ⟨Int.le_refl _, by show (0 : Int) ≤ 99; omega⟩
  | cons a P => exact h a (hP a List.mem_cons_self)
theorem wyA_r {n : Nat} {X Y : Int → Int} (hX : XYR n X) (hY : XYR n Y) {P : List Nat} (hP : ∀ x ∈ P, x < n) {h : Nat} (hh : h < n) : 0 ≤ wyA X Y P h ∧ wyA X Y P h ≤ 200 := by
  have p1 := pxA_r hX hP
  have p2 := pxA_r hY hP
  have x1 := hX h hh
  have x2 := hY h hh
  have a1 := abI_r (x := X (h : Int) - pxA X P) (by omega) (by omega)
  have a2 := abI_r (x := Y (h : Int) - pxA Y P) (by omega) (by omega)
  unfold wyA
  omega
/-- the agent's best -/
def BSX (V : Mem) (B : BST) : Prop := V 121 6 = B.1 ∧ V 121 5 = (B.2.length : Int) ∧ (∀ j : Nat, j < B.2.length → V 124 (j : Int) = rwA B.2 j) ∧ B.2.length ≤ 7 ∧ 0 ≤ B.1 ∧ B.1 ≤ 9999
def GFX (V0 V : Mem) : Prop := ∀ a q, ¬ (a = 121 ∧ (q = 5 ∨ q = 6)) → ¬ a = 123 → ¬ a = 124 → V a q = V0 a q
theorem GFX.fv (h : GFX V0 V) (hV : FV V0) : FV V := hV.fr (fun a q hd => h a q (by unfold VD at hd; omega) (by unfold VD at hd; omega) (by unfold VD at hd; omega))
theorem keepRow_l {g : Cnt} (hS : FS S) (hV : FV V) {p : Nat} (hp : p ≤ 7) (hU : ∀ V', (∀ a q, ¬ a = 124 → V' a q = V a q) → (∀ j : Nat, j < p → V' 124 (j : Int) = V 123 (j : Int)) → U V' S) : ∀ (N i : Nat) (V1 : Mem) (u2 : XV), N + i = p → (∀ a q, ¬ a = 124 → V1 a q = V a q) → (∀ j : Nat, j < i → V1 124 (j : Int) = V 123 (j : Int)) → K_Agent_keepRow d U (12, [(2, 121), (0, (p : Int)), u2, (0, (i : Int))], [], V1, S, g) := by
  have hV0 := hV
  have sp : s32 (p : Int) = (p : Int) := s32_id (by omega) (by omega)
  intro N
  induction N with
  | zero =>
    intro i V1 u2 hi h1 h2
    have e : i = p := by omega
    subst e
    have := hU V1 h1 h2
    rw [L_Agent_keepRow_12]
    simp only [sp, Int.lt_irrefl, this, b_s32, b_eq0, b_01, l0, l1, true_and, and_true, and_self, true_implies, false_implies, implies_true, forall_const, not_true_eq_false, not_false_eq_true, reduceIte, ite_true, ite_false, reduceCtorEq, forall_eq, Classical.not_not, true_or, or_true, false_or, or_false, and_false, false_and, Int.reduceEq, Int.reduceLT, Int.reduceLE, Int.reduceAdd, Int.reduceSub, Int.reduceMul, Int.reduceNeg]
  | succ N ih =>
    intro i V1 u2 hi h1 h2
    have hV : FV V1 := hV0.fr (fun a q hd => h1 a q (by unfold VD at hd; omega))
    have si : s32 (i : Int) = (i : Int) := s32_id (by omega) (by omega)
    have s7 : s32 7 = 7 := s32_id (by omega) (by omega)
    have := ih (i + 1) (up2 V1 124 (i : Int) (V1 123 (i : Int))) (9, 0) (by omega) (fun a q ha => by rw [up2_ne (by omega)]; exact h1 a q ha) (fun j hj => by
      by_cases e : j = i
      · subst e; rw [up2_eq rfl rfl]; exact h1 _ _ (by omega)
      · rw [up2_ne (by omega)]; exact h2 j (by omega))
    rw [show ((i + 1 : Nat) : Int) = (i : Int) + 1 from by omega] at this
    rw [L_Agent_keepRow_12]
    simp only [si, sp, s7, show (i : Int) < (p : Int) from by omega, hS.k121, hV.r121_3, hV.r121_4, hS.k123, hS.n123, hS.k124, hS.n124, show (i : Int) < 7 from by omega, show (0 : Int) ≤ (i : Int) from by omega, show (100 : Int) ≤ 100 from by omega, show (100 : Int) < 123 from by omega, this, forall_eq, b_s32, b_eq0, b_01, l0, l1, true_and, and_true, and_self, true_implies, false_implies, implies_true, forall_const, not_true_eq_false, not_false_eq_true, reduceIte, ite_true, ite_false, reduceCtorEq, forall_eq, Classical.not_not, true_or, or_true, false_or, or_false, and_false, false_and, Int.reduceEq, Int.reduceLT, Int.reduceLE, Int.reduceAdd, Int.reduceSub, Int.reduceMul, Int.reduceNeg]
theorem p_keepRow (hS : FS S) (hV : FV V) {p : Nat} {c : Int} (hp : p ≤ 7) (hU : ∀ V', (∀ a q, ¬ a = 124 → ¬ (a = 121 ∧ (q = 5 ∨ q = 6)) → V' a q = V a q) → V' 121 5 = (p : Int) → V' 121 6 = c → (∀ j : Nat, j < p → V' 124 (j : Int) = V 123 (j : Int)) → U V' S) : C_Agent_keepRow (d + 1) 121 (p : Int) c V S U := by
  have hV1 : FV (up2 (up2 V 121 5 (p : Int)) 121 6 c) := hV.fr (fun a q hd => by rw [up2_ne (by unfold VD at hd; omega), up2_ne (by unfold VD at hd; omega)])
  have k := keepRow_l (d := d) (g := (0, 0)) (U := U) hS hV1 hp (fun V' h1 h2 => hU V' (fun a q n1 n2 => by rw [h1 a q n1, up2_ne (by omega), up2_ne (by omega)]) (by rw [h1 _ _ (by omega), up2_ne (by omega), up2_eq rfl rfl]) (by rw [h1 _ _ (by omega), up2_eq rfl rfl]) (fun j hj => by rw [h2 j hj, up2_ne (by omega), up2_ne (by omega)])) p 0 _ (0, c) (by omega) (fun _ _ _ => rfl) (fun j hj => absurd hj (Nat.not_lt_zero j))
  have k : K_Agent_keepRow d U (12, [(2, 121), (0, (p : Int)), (0, c), (0, 0)], [], up2 (up2 V 121 5 (p : Int)) 121 6 c, S, (0, 0)) := k
  rw [I_Agent_keepRow]
  simp only [hS.k121, forall_eq, k, b_s32, b_eq0, b_01, l0, l1, true_and, and_true, and_self, true_implies, false_implies, implies_true, forall_const, not_true_eq_false, not_false_eq_true, reduceIte, ite_true, ite_false, reduceCtorEq, forall_eq, Classical.not_not, true_or, or_true, false_or, or_false, and_false, false_and, Int.reduceEq, Int.reduceLT, Int.reduceLE, Int.reduceAdd, Int.reduceSub, Int.reduceMul, Int.reduceNeg]
end BE
section BF
variable {d n s k : Nat} {mo r c : Int} {P : List Nat} {V0 : Mem} {S : Shp}
/-- what the search of the component rests on -/
def ENV (V0 : Mem) (S : Shp) (n s : Nat) (mo : Int) : Prop := SK V0 S ∧ HDT V0 ∧ V0 137 1 = (n : Int) ∧ n ≤ 12 ∧ s < 65536 ∧ (V0 121 2 = mo ∧ 0 ≤ mo ∧ mo < 20) ∧ (V0 121 1 = (pcn n s : Int) ∧ pcn n s ≤ 7) ∧ ∀ h : Nat, h < n → s.testBit h = true → V0 122 (pcn h s : Int) = 2000 + 10 * (h : Int)
def coA (V0 : Mem) (mo : Int) : Int → Int := fun h => V0 140 (20 * h + mo)
theorem ENV.xy (h : ENV V0 S n s mo) : XYR n (V0 138) ∧ XYR n (V0 139) := by
  obtain ⟨-, h2, h3, -⟩ := h
  refine ⟨fun x hx => ?_, fun x hx => ?_⟩
  · obtain ⟨⟨-, -, q1, q2, -⟩, -⟩ := h2.1 (x : Int) (by omega) (by omega)
    exact ⟨q1, q2⟩
  · obtain ⟨⟨-, -, -, -, q1, q2⟩, -⟩ := h2.1 (x : Int) (by omega) (by omega)
    exact ⟨q1, q2⟩
theorem bit_or {a i j : Nat} : (a ||| 2 ^ i).testBit j = true ↔ (a.testBit j = true ∨ i = j) := by
  rw [Nat.testBit_or, Nat.testBit_two_pow, Bool.or_eq_true, decide_eq_true_eq]
theorem goOn_h {V : Mem} {B : BST} {R : Mem → Shp → Prop} (hS : FS S) (hV : FV V) (hP : P.length ≤ 7) (c0 : 0 ≤ c) (c1 : c ≤ 9999) (hRw : ∀ j : Nat, j < P.length → V 123 (j : Int) = rwA P j) (hB : BSX V B) (hR : ∀ V', (∀ a q, ¬ a = 124 → ¬ (a = 121 ∧ (q = 5 ∨ q = 6)) → V' a q = V a q) → BSX V' (bup B c P) → R V' S) : (S.1 121 = 1 ∧ (S.1 121 = 1 ∧ ((s32 (V 121 6) < s32 c → C_Agent_keepRow (d + 1) 121 (P.length : Int) c V S R) ∧ (¬ s32 (V 121 6) < s32 c → (S.1 121 = 1 ∧ ((s32 c = s32 (V 121 6) → (S.1 121 = 1 ∧ ((s32 (P.length : Int) < s32 (V 121 5) → C_Agent_keepRow (d + 1) 121 (P.length : Int) c V S R) ∧ (¬ s32 (P.length : Int) < s32 (V 121 5) → R V S)))) ∧ (¬ s32 c = s32 (V 121 6) → R V S))))))) := by
  have k1 := hS.k121
  have sp : s32 (P.length : Int) = (P.length : Int) := s32_id (by omega) (by omega)
  have sc : s32 c = c := s32_id (by omega) (by omega)
  have hB' := hB
  obtain ⟨b1, b2', b3, b4, b5, b6⟩ := hB
  have s6 : s32 (V 121 6) = B.1 := by rw [b1]; exact s32_id (by omega) (by omega)
  have s5 : s32 (V 121 5) = (B.2.length : Int) := by rw [b2']; exact s32_id (by omega) (by omega)
  have keep : (B.1 < c ∨ (c = B.1 ∧ P.length < B.2.length)) → C_Agent_keepRow (d + 1) 121 (P.length : Int) c V S R := fun q => by
    refine p_keepRow (d := d) hS hV hP (fun V' f1 f2 f3 f4 => hR V' f1 ?_)
    unfold bup
    rw [if_pos q]
    exact ⟨f3, f2, fun j hj => (f4 j hj).trans (hRw j hj), hP, c0, c1⟩
  have stay : ¬ (B.1 < c ∨ (c = B.1 ∧ P.length < B.2.length)) → R V S := fun q => by
    refine hR V (fun _ _ _ _ => rfl) ?_
    unfold bup
    rw [if_neg q]
    exact hB'
  rw [s6, s5, sp, sc]
  refine ⟨k1, k1, fun q => keep (Or.inl q), fun q => ⟨k1, fun z => ⟨k1, fun w => keep (Or.inr ⟨z, by omega⟩), fun w => stay (fun y => ?_)⟩, fun z => stay (fun y => ?_)⟩⟩
  · rcases y with y | y <;> omega
  · rcases y with y | y <;> omega
theorem c_goOn (hE : ENV V0 S n s mo) : ∀ (k : Nat) (P : List Nat) (vis : Nat) (r c : Int) (V : Mem) (B : BST) (U : Mem → Shp → Prop), P.length + k = 7 → (∀ x ∈ P, x < n) → vis < 128 → (∀ h : Nat, h < n → s.testBit h = true → (vis.testBit (pcn h s) = true ↔ h ∈ P)) → 0 ≤ r → r ≤ 9999 → 0 ≤ c → c ≤ 999 * (P.length : Int) → GFX V0 V → (∀ j : Nat, j < P.length → V 123 (j : Int) = rwA P j) → BSX V B → (∀ V', GFX V0 V' → (∀ j : Nat, j < P.length → V' 123 (j : Int) = V 123 (j : Int)) → BSX V' (wsr n s (V0 138) (V0 139) (coA V0 mo) k P r c B) → U V' S) → C_Agent_goOn (d + k + 4) 121 (vis : Int) (P.length : Int) (pxA (V0 138) P) (pxA (V0 139) P) r c V S U := by
  obtain ⟨hX, hY⟩ := hE.xy
  obtain ⟨hk, hH, hn, n12, hs, ⟨m1, m2, m3⟩, ⟨t1, t2⟩, ht⟩ := hE
  have hS := hk.1
  have hV0 := hk.2.1
  have s7 : s32 7 = 7 := s32_id (by omega) (by omega)
  intro k
  induction k with
  | zero =>
    intro P vis r c V B U hP hPn hv hb r0 r1 c0 c1 hG hR hB hU
    have eP : P.length = 7 := by omega
    have sp : s32 (P.length : Int) = 7 := by rw [eP]; exact s7
    rw [show d + 0 + 4 = d + 3 + 1 from rfl, I_Agent_goOn]
    refine goOn_h (d := d + 2) hS (hG.fv hV0) (by omega) c0 (by omega) hR hB (fun V1 f1 hb1 => ?_)
    have hG1 : GFX V0 V1 := fun a q n1 n2 n3 => (f1 a q n3 n1).trans (hG a q n1 n2 n3)
    have hu := hU V1 hG1 (fun j hj => f1 _ _ (by omega) (by omega)) hb1
    have hV := hG1.fv hV0
    simp only [sp, hS.k121, hV.r121_3, hS.k123, hS.n123, s7, Int.lt_irrefl, hu, show ¬ (7 : Int) < 0 from by omega, show (100 : Int) ≤ 100 from by omega, show (100 : Int) < 123 from by omega, b_s32, b_eq0, b_01, l0, l1, true_and, and_true, and_self, true_implies, false_implies, implies_true, forall_const, not_true_eq_false, not_false_eq_true, reduceIte, ite_true, ite_false, reduceCtorEq, forall_eq, Classical.not_not, true_or, or_true, false_or, or_false, and_false, false_and, Int.reduceEq, Int.reduceLT, Int.reduceLE, Int.reduceAdd, Int.reduceSub, Int.reduceMul, Int.reduceNeg]
  | succ k ih =>
    intro P vis r c V B U hP hPn hv hb r0 r1 c0 c1 hG hR hB hU
    have sp : s32 (P.length : Int) = (P.length : Int) := s32_id (by omega) (by omega)
    have sr : s32 r = r := s32_id (by omega) (by omega)
    have tc : s32 (pcn n s : Int) = (pcn n s : Int) := s32_id (by omega) (by omega)
    have loop : ∀ (N h : Nat) (V : Mem) (B : BST) (u8 u9 : XV), N + h = n → GFX V0 V → (∀ j : Nat, j < P.length → V 123 (j : Int) = rwA P j) → BSX V B → (∀ V', GFX V0 V' → (∀ j : Nat, j < P.length → V' 123 (j : Int) = V 123 (j : Int)) → BSX V' (wlp (wfA n s (V0 138) (V0 139) (coA V0 mo) k P r c) N h B) → U V' S) → K_Agent_goOn (d + k + 4) U (50, [(2, 121), (0, (vis : Int)), (0, (P.length : Int)), (0, pxA (V0 138) P), (0, pxA (V0 139) P), (0, r), (0, c), (0, (pcn h s : Int)), u8, u9], [], V, S, (0, 0)) := by
      intro N
      induction N with
      | zero =>
        intro h V B u8 u9 hN hG hR hB hU
        have e : h = n := by omega
        subst e
        have hu := hU V hG (fun _ _ => rfl) hB
        have e1 : V 121 1 = (pcn h s : Int) := (hG _ _ (by omega) (by omega) (by omega)).trans t1
        rw [L_Agent_goOn_50]
        simp only [hS.k121, e1, tc, Int.lt_irrefl, hu, b_s32, b_eq0, b_01, l0, l1, true_and, and_true, and_self, true_implies, false_implies, implies_true, forall_const, not_true_eq_false, not_false_eq_true, reduceIte, ite_true, ite_false, reduceCtorEq, forall_eq, Classical.not_not, true_or, or_true, false_or, or_false, and_false, false_and, Int.reduceEq, Int.reduceLT, Int.reduceLE, Int.reduceAdd, Int.reduceSub, Int.reduceMul, Int.reduceNeg]
      | succ N ihN =>
        intro h V B u8 u9 hN hG hR hB hU
        have hV := hG.fv hV0
        have q := pcn_s h s
        cases hbit : s.testBit h
        · rw [hbit, if_neg (by decide)] at q
          have := ihN (h + 1) V B u8 u9 (by omega) hG hR hB (fun V' g1 g2 g3 => hU V' g1 g2 (by rw [wlp_s, wfA_f (fun z => by rw [hbit] at z; cases z.1)]; exact g3))
          rw [q, Nat.add_zero] at this
          exact this
        · rw [hbit, if_pos rfl] at q
          have m := pcn_m s N (h + 1)
          rw [show h + 1 + N = n from by omega] at m
          have si : s32 (pcn h s : Int) = (pcn h s : Int) := s32_id (by omega) (by omega)
          have e1 : V 121 1 = (pcn n s : Int) := (hG _ _ (by omega) (by omega) (by omega)).trans t1
          have e2 : V 121 2 = mo := (hG _ _ (by omega) (by omega) (by omega)).trans m1
          have eT : V 122 (pcn h s : Int) = 2000 + 10 * (h : Int) := (hG _ _ (by omega) (by omega) (by omega)).trans (ht h (by omega) hbit)
          have eb := sh_bit (n := vis) (i := pcn h s) (by omega) (by omega)
          obtain ⟨⟨k0, k2, k3⟩, r1', r2, r3⟩ := hk.home (a := (h : Int)) (by omega) (by omega)
          obtain ⟨⟨x1, x2, x3, x4, x5, x6⟩, x7⟩ := hH.1 (h : Int) (by omega) (by omega)
          have vh : ∀ q, V (2000 + 10 * (h : Int)) q = V0 (2000 + 10 * (h : Int)) q := fun q => hG _ _ (by omega) (by omega) (by omega)
          have w := wyA_r hX hY hPn (h := h) (by omega)
          have p1 := pxA_r hX hPn
          have p2 := pxA_r hY hPn
          have hmin : ∀ Q' : Int → Mem → Shp → Prop, C_Home_minutesFrom (d + k + 4) (2000 + 10 * (h : Int)) (pxA (V0 138) P) (pxA (V0 139) P) V S Q' ↔ Q' (wyA (V0 138) (V0 139) P h) V S := fun Q' => by
            have A1 : ∀ Q'' : Int → Mem → Shp → Prop, C_Math_abs_I (d + k + 3) (V0 138 (h : Int) - pxA (V0 138) P) V S Q'' ↔ Q'' (abI (V0 138 (h : Int) - pxA (V0 138) P)) V S := fun Q'' => q_absI (by omega) (by omega)
            have A2 : ∀ Q'' : Int → Mem → Shp → Prop, C_Math_abs_I (d + k + 3) (V0 139 (h : Int) - pxA (V0 139) P) V S Q'' ↔ Q'' (abI (V0 139 (h : Int) - pxA (V0 139) P)) V S := fun Q'' => q_absI (by omega) (by omega)
            rw [show d + k + 4 = d + k + 3 + 1 from rfl, I_Home_minutesFrom]
            simp only [vh, x1, x2, A1, A2, k0, b_s32, b_eq0, b_01, l0, l1, true_and, and_true, and_self, true_implies, false_implies, implies_true, forall_const, not_true_eq_false, not_false_eq_true, reduceIte, ite_true, ite_false, reduceCtorEq, forall_eq, Classical.not_not, true_or, or_true, false_or, or_false, and_false, false_and, Int.reduceEq, Int.reduceLT, Int.reduceLE, Int.reduceAdd, Int.reduceSub, Int.reduceMul, Int.reduceNeg]
            exact Iff.rfl
          have next : ∀ (V1 : Mem) (B1 : BST), GFX V0 V1 → (∀ j : Nat, j < P.length → V1 123 (j : Int) = V 123 (j : Int)) → BSX V1 B1 → B1 = wfA n s (V0 138) (V0 139) (coA V0 mo) k P r c h B → ∀ u8 u9, K_Agent_goOn (d + k + 4) U (50, [(2, 121), (0, (vis : Int)), (0, (P.length : Int)), (0, pxA (V0 138) P), (0, pxA (V0 139) P), (0, r), (0, c), (0, (pcn h s : Int) + 1), u8, u9], [], V1, S, (0, 0)) := fun V1 B1 y1 y2 y3 y4 u8 u9 => by
            have := ihN (h + 1) V1 B1 u8 u9 (by omega) y1 (fun j hj => (y2 j hj).trans (hR j hj)) y3 (fun V' g1 g2 g3 => hU V' g1 (fun j hj => (g2 j hj).trans (y2 j hj)) (by rw [wlp_s, ← y4]; exact g3))
            rw [q, show ((pcn h s + 1 : Nat) : Int) = (pcn h s : Int) + 1 from by omega] at this
            exact this
          rw [L_Agent_goOn_50]
          by_cases cp : h ∈ P
          · have n1 := next V B hG (fun _ _ => rfl) hB (wfA_f (fun z => z.2.1 cp)).symm
            rw [(hb h (by omega) hbit).mpr cp] at eb
            simp only [hS.k121, hV.r121_0, hS.k122, hS.n122, e1, tc, si, s7, show (pcn h s : Int) < (pcn n s : Int) from by omega, show (pcn h s : Int) < 7 from by omega, show (0 : Int) ≤ (pcn h s : Int) from by omega, show (100 : Int) ≤ 114 from by omega, show (114 : Int) < 123 from by omega, eT, show ¬ 2000 + 10 * (h : Int) = -1 from by omega, eb, show ¬ s32 (b2 true) = 0 from by decide, n1, b_s32, b_eq0, b_01, l0, l1, true_and, and_true, and_self, true_implies, false_implies, implies_true, forall_const, not_true_eq_false, not_false_eq_true, reduceIte, ite_true, ite_false, reduceCtorEq, forall_eq, Classical.not_not, true_or, or_true, false_or, or_false, and_false, false_and, Int.reduceEq, Int.reduceLT, Int.reduceLE, Int.reduceAdd, Int.reduceSub, Int.reduceMul, Int.reduceNeg]
          · have vf : vis.testBit (pcn h s) = false := nf (fun z => cp ((hb h (by omega) hbit).mp z))
            rw [vf] at eb
            have sw : s32 (wyA (V0 138) (V0 139) P h) = wyA (V0 138) (V0 139) P h := s32_id (by omega) (by omega)
            by_cases cw : r < wyA (V0 138) (V0 139) P h
            · have n1 := next V B hG (fun _ _ => rfl) hB (wfA_f (fun z => by omega)).symm
              simp only [hS.k121, hV.r121_0, hS.k122, hS.n122, e1, tc, si, s7, show (pcn h s : Int) < (pcn n s : Int) from by omega, show (pcn h s : Int) < 7 from by omega, show (0 : Int) ≤ (pcn h s : Int) from by omega, show (100 : Int) ≤ 114 from by omega, show (114 : Int) < 123 from by omega, eT, show ¬ 2000 + 10 * (h : Int) = -1 from by omega, eb, show s32 (b2 false) = 0 from by decide, hmin, sr, sw, cw, n1, b_s32, b_eq0, b_01, l0, l1, true_and, and_true, and_self, true_implies, false_implies, implies_true, forall_const, not_true_eq_false, not_false_eq_true, reduceIte, ite_true, ite_false, reduceCtorEq, forall_eq, Classical.not_not, true_or, or_true, false_or, or_false, and_false, false_and, Int.reduceEq, Int.reduceLT, Int.reduceLE, Int.reduceAdd, Int.reduceSub, Int.reduceMul, Int.reduceNeg]
            · have hi := pcn_m s (n - h) h
              have ei := shl_c ⟨pcn h s, by omega⟩
              have ei : ishlI 1 (pcn h s : Int) = ((2 ^ pcn h s : Nat) : Int) := ei
              have hp2 : 2 ^ pcn h s < 2 ^ 7 := Nat.pow_lt_pow_right (by omega) (by omega)
              have hor : vis ||| 2 ^ pcn h s < 2 ^ 7 := Nat.or_lt_two_pow (n := 7) hv hp2
              have hp2 : 2 ^ pcn h s < 128 := hp2
              have hor : vis ||| 2 ^ pcn h s < 128 := hor
              have eo : iorI (vis : Int) ((2 ^ pcn h s : Nat) : Int) = ((vis ||| 2 ^ pcn h s : Nat) : Int) := ior_n (by omega) (by omega)
              obtain ⟨x8, x9, x10⟩ := x7 mo m2 m3
              have hG2 : GFX V0 (up2 V 123 (P.length : Int) (h : Int)) := fun a q n1 n2 n3 => by rw [up2_ne (by omega)]; exact hG a q n1 n2 n3
              have hB2 : BSX (up2 V 123 (P.length : Int) (h : Int)) B := by
                obtain ⟨b1, b2', b3, b4⟩ := hB
                exact ⟨(up2_ne (by omega)).trans b1, (up2_ne (by omega)).trans b2', fun j hj => (up2_ne (by omega)).trans (b3 j hj), b4⟩
              have hco : ∀ Q' : Int → Mem → Shp → Prop, C_Home_coinsIn (d + k + 4) (2000 + 10 * (h : Int)) mo (up2 V 123 (P.length : Int) (h : Int)) S Q' ↔ Q' (coA V0 mo (h : Int)) (up2 V 123 (P.length : Int) (h : Int)) S := fun Q' => by
                have sm : s32 mo = mo := s32_id (by omega) (by omega)
                rw [show d + k + 4 = d + k + 2 + 1 + 1 from rfl, I_Home_coinsIn, up2_ne (by omega), vh, r3, k0, p_valueAt _ _ _ _ _ _ (Or.inl k2) (by rw [k3]; omega), k3, sm, if_pos ⟨m2, m3⟩, up2_ne (by omega), hG _ _ (by omega) (by omega) (by omega), x8]
                simp only [b_s32, b_eq0, b_01, l0, l1, true_and, and_true, and_self, true_implies, false_implies, implies_true, forall_const, not_true_eq_false, not_false_eq_true, reduceIte, ite_true, ite_false, reduceCtorEq, forall_eq, Classical.not_not, true_or, or_true, false_or, or_false, and_false, false_and, Int.reduceEq, Int.reduceLT, Int.reduceLE, Int.reduceAdd, Int.reduceSub, Int.reduceMul, Int.reduceNeg]
                exact Iff.rfl
              have go := ih (h :: P) (vis ||| 2 ^ pcn h s) (r - wyA (V0 138) (V0 139) P h) (c + coA V0 mo (h : Int)) (up2 V 123 (P.length : Int) (h : Int)) B (fun V4 S4 => K_Agent_goOn (d + k + 4) U (50, [(2, 121), (0, (vis : Int)), (0, (P.length : Int)), (0, pxA (V0 138) P), (0, pxA (V0 139) P), (0, r), (0, c), (0, (pcn h s : Int) + 1), (2, 2000 + 10 * (h : Int)), (0, wyA (V0 138) (V0 139) P h)], [], V4, S4, (0, 0)))
                (by show P.length + 1 + k = 7; omega)
                (fun x hx => by
                  rcases List.mem_cons.mp hx with e | e
                  · rw [e]; omega
                  · exact hPn x e)
                hor
                (fun g hg hgb => by
                  rw [bit_or, hb g hg hgb, List.mem_cons]
                  exact ⟨fun z => z.elim Or.inr (fun e => Or.inl (pcn_u hgb hbit e.symm)), fun z => z.elim (fun e => Or.inr (by rw [e])) Or.inl⟩)
                (by omega) (by omega) (by show 0 ≤ c + V0 140 (20 * (h : Int) + mo); omega) (by show c + V0 140 (20 * (h : Int) + mo) ≤ 999 * ((P.length + 1 : Nat) : Int); omega) hG2
                (fun j hj => by
                  show up2 V 123 (P.length : Int) (h : Int) 123 (j : Int) = if j = P.length then (h : Int) else rwA P j
                  by_cases e : j = P.length
                  · rw [if_pos e, up2_eq rfl (by omega)]
                  · have hj : j < P.length + 1 := hj
                    rw [if_neg e, up2_ne (by omega)]
                    exact hR j (by omega))
                hB2
                (fun V4 y1 y2 y3 => next V4 _ y1 (fun j hj => by
                  have := y2 j (by show j < P.length + 1; omega)
                  rw [up2_ne (by omega)] at this
                  exact this) y3 (wfA_t ⟨hbit, cp, by omega⟩).symm _ _)
              have e3 : ((h :: P).length : Int) = (P.length : Int) + 1 := by show ((P.length + 1 : Nat) : Int) = _; omega
              rw [e3, show pxA (V0 138) (h :: P) = V0 138 (h : Int) from rfl, show pxA (V0 139) (h :: P) = V0 139 (h : Int) from rfl] at go
              simp (disch := omega) only [hS.k121, hV.r121_0, hV.r121_3, hS.k122, hS.n122, hS.k123, hS.n123, e1, e2, tc, si, sp, s7, show (pcn h s : Int) < (pcn n s : Int) from by omega, show (pcn h s : Int) < 7 from by omega, show (0 : Int) ≤ (pcn h s : Int) from by omega, show (100 : Int) ≤ 114 from by omega, show (114 : Int) < 123 from by omega, eT, show ¬ 2000 + 10 * (h : Int) = -1 from by omega, eb, show s32 (b2 false) = 0 from by decide, hmin, sr, sw, cw, vh, k0, r2, x1, x2, forall_eq, show (0 : Int) ≤ (P.length : Int) from by omega, show (P.length : Int) < 7 from by omega, up2_ne, hco, ei, eo, go, b_s32, b_eq0, b_01, l0, l1, true_and, and_true, and_self, true_implies, false_implies, implies_true, forall_const, not_true_eq_false, not_false_eq_true, reduceIte, ite_true, ite_false, reduceCtorEq, forall_eq, Classical.not_not, true_or, or_true, false_or, or_false, and_false, false_and, Int.reduceEq, Int.reduceLT, Int.reduceLE, Int.reduceAdd, Int.reduceSub, Int.reduceMul, Int.reduceNeg]
    rw [show d + (k + 1) + 4 = d + k + 4 + 1 from by omega, I_Agent_goOn]
    refine goOn_h (d := d + k + 3) hS (hG.fv hV0) (by omega) c0 (by omega) hR hB (fun V1 f1 hb1 => ?_)
    have hG1 : GFX V0 V1 := fun a q n1 n2 n3 => (f1 a q n3 n1).trans (hG a q n1 n2 n3)
    have hrow : ∀ j : Nat, j < P.length → V1 123 (j : Int) = V 123 (j : Int) := fun j hj => f1 _ _ (by omega) (by omega)
    have lp := loop n 0 V1 (bup B c P) (9, 0) (9, 0) (by omega) hG1 (fun j hj => (hrow j hj).trans (hR j hj)) hb1 (fun V' g1 g2 g3 => hU V' g1 (fun j hj => (g2 j hj).trans (hrow j hj)) (by rw [wsr_s]; exact g3))
    have lp : K_Agent_goOn (d + k + 4) U (50, [(2, 121), (0, (vis : Int)), (0, (P.length : Int)), (0, pxA (V0 138) P), (0, pxA (V0 139) P), (0, r), (0, c), (0, 0), (9, 0), (9, 0)], [], V1, S, (0, 0)) := lp
    have hV := hG1.fv hV0
    simp only [sp, hS.k121, hV.r121_3, hS.k123, hS.n123, s7, show ¬ (P.length : Int) < 0 from by omega, show (P.length : Int) < 7 from by omega, show (100 : Int) ≤ 100 from by omega, show (100 : Int) < 123 from by omega, lp, b_s32, b_eq0, b_01, l0, l1, true_and, and_true, and_self, true_implies, false_implies, implies_true, forall_const, not_true_eq_false, not_false_eq_true, reduceIte, ite_true, ite_false, reduceCtorEq, forall_eq, Classical.not_not, true_or, or_true, false_or, or_false, and_false, false_and, Int.reduceEq, Int.reduceLT, Int.reduceLE, Int.reduceAdd, Int.reduceSub, Int.reduceMul, Int.reduceNeg]
end BF
