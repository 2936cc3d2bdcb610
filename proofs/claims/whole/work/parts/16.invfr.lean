/-! the invariant where few cells change -/
theorem INV.up {n m : Int} {V : Mem} {S : Shp} (h : INV n V S) (hn : n ≤ m) : INV m V S := by
  obtain ⟨h1, h2, h3, ⟨a1, a2, a3, a4, a5, a6, a7⟩, h5, h6, h7, h8, h9⟩ := h
  exact ⟨h1, h2, h3, ⟨a1, a2, LM1.up a3 hn, a4, a5, a6, a7⟩, h5, h6, h7, h8, h9⟩
section IV
variable {n m a : Int} {V V' : Mem} {S : Shp} {W : Int → Int → Prop}
theorem SK.home (h : SK V S) (j0 : 0 ≤ a) (j1 : a < V 137 1) : HSK V S a := h.2.2.2.1 a j0 j1
theorem SK.lamp (h : SK V S) (j0 : 0 ≤ a) (j1 : a < V 137 2) : LSK V S a := h.2.2.2.2.1 a j0 j1
theorem SK.n12 (h : SK V S) : V 137 1 ≤ 12 := h.2.2.1.1.2.2
theorem SK.n20 (h : SK V S) : V 137 2 ≤ 20 := h.2.2.1.2.1.2.2
theorem SK.n599 (h : SK V S) : 0 ≤ V 137 0 ∧ V 137 0 ≤ 599 := h.2.2.1.2.2.1.2
theorem SK.n10 (h : SK V S) : 0 ≤ V 137 24 ∧ V 137 24 ≤ 10 := h.2.2.1.2.2.2.2
theorem INV.fr (h : INV n V S) (hfr : ∀ a k, ¬ W a k → V' a k = V a k) (hn : n ≤ m)
    (cSK : (∀ a k, W a k → ¬ SKD a k) ∨ SK V' S := by exact Or.inl (fun a k hw hd => by unfold SKD VD at hd; (try dsimp only at hw); omega))
    (cUN : (∀ a k, W a k → ¬ UND a k) ∨ UN V' S := by exact Or.inl (fun a k hw hd => by unfold UND at hd; (try dsimp only at hw); omega))
    (cHD : (∀ a k, W a k → ¬ HDD a k) ∨ HDT V' := by exact Or.inl (fun a k hw hd => by unfold HDD at hd; (try dsimp only at hw); omega))
    (cLA : (∀ a k, W a k → ¬ LAD a k) ∨ ALL V' LA1 := by exact Or.inl (fun a k hw hd => by unfold LAD at hd; (try dsimp only at hw); omega))
    (cLB : (∀ a k, W a k → ¬ LBD a k) ∨ ALL V' LB1 := by exact Or.inl (fun a k hw hd => by unfold LBD at hd; (try dsimp only at hw); omega))
    (cLM : (∀ a k, W a k → ¬ LMD a k) ∨ ALL V' (LM1 m) := by exact Or.inl (fun a k hw hd => by unfold LMD at hd; (try dsimp only at hw); omega))
    (cLO : (∀ a k, W a k → ¬ LOD a k) ∨ ALL V' LO1 := by exact Or.inl (fun a k hw hd => by unfold LOD at hd; (try dsimp only at hw); omega))
    (cLC : (∀ a k, W a k → ¬ LCD a k) ∨ ALL V' LC1 := by exact Or.inl (fun a k hw hd => by unfold LCD at hd; (try dsimp only at hw); omega))
    (cLK : (∀ a k, W a k → ¬ LKD a k) ∨ ALL V' LK1 := by exact Or.inl (fun a k hw hd => by unfold LKD at hd; (try dsimp only at hw); omega))
    (cLZ : (∀ a k, W a k → ¬ LZD a k) ∨ LZZ V' := by exact Or.inl (fun a k hw hd => by unfold LZD at hd; (try dsimp only at hw); omega))
    (cTX : (∀ a k, W a k → ¬ TXD (V 137 24) a k) ∨ TXT V' := by exact Or.inl (fun a k hw hd => by unfold TXD at hd; (try dsimp only at hw); omega))
    (cRD : (∀ a k, W a k → ¬ RDD a k) ∨ RDR V' := by exact Or.inl (fun a k hw hd => by unfold RDD at hd; (try dsimp only at hw); omega))
    (cBK : (∀ a k, W a k → ¬ BKD a k) ∨ BKS V' := by exact Or.inl (fun a k hw hd => by unfold BKD at hd; (try dsimp only at hw); omega))
    (cAC : (∀ a k, W a k → ¬ ACD a k) ∨ ACT V' := by exact Or.inl (fun a k hw hd => by unfold ACD at hd; (try dsimp only at hw); omega))
    (cTP : (∀ a k, W a k → ¬ TPD a k) ∨ TAP V' := by exact Or.inl (fun a k hw hd => by unfold TPD at hd; (try dsimp only at hw); omega)) : INV m V' S := by
  have q : ∀ D : Int → Int → Prop, (∀ a k, W a k → ¬ D a k) → FRM D V V' := fun D hD a k hd => hfr a k (fun hw => hD a k hw hd)
  obtain ⟨h1, h2, h3, ⟨a1, a2, a3, a4, a5, a6, a7⟩, h5, h6, h7, h8, h9⟩ := h
  have n20 := h1.n20
  have n12 := h1.n12
  exact ⟨cSK.elim (fun c => h1.fr (q _ c)) id, cUN.elim (fun c => h2.fr (q _ c)) id, cHD.elim (fun c => h3.fr n12 (q _ c)) id,
    ⟨cLA.elim (fun c => LA1.fr a1 n20 (q _ c)) id, cLB.elim (fun c => LB1.fr a2 n20 (q _ c)) id, cLM.elim (fun c => LM1.fr (LM1.up a3 hn) n20 (q _ c)) id, cLO.elim (fun c => LO1.fr a4 (q _ c)) id, cLC.elim (fun c => LC1.fr a5 n20 (q _ c)) id, cLK.elim (fun c => LK1.fr a6 n20 (q _ c)) id, cLZ.elim (fun c => a7.fr (q _ c)) id⟩,
    cTX.elim (fun c => h5.fr (q _ c)) id, cRD.elim (fun c => h6.fr (q _ c)) id, cBK.elim (fun c => h7.fr (q _ c)) id, cAC.elim (fun c => h8.fr (q _ c)) id, cTP.elim (fun c => h9.fr (q _ c)) id⟩
end IV
