/-! the law's own body; the claim out of an abstract run of it -/
def lawE (pc : Nat) : Bool := okE 16 (some .boolean) 4 false code pc (cd_law_law pc)
theorem ckl_0 : (List.range 138).all (fun k => lawE (0 + k)) = true := by decide +kernel
theorem ckl_1 : (List.range 138).all (fun k => lawE (138 + k)) = true := by decide +kernel
theorem ckl_2 : (List.range 138).all (fun k => lawE (276 + k)) = true := by decide +kernel
theorem ckl_3 : (List.range 138).all (fun k => lawE (414 + k)) = true := by decide +kernel
theorem ckl_4 : (List.range 138).all (fun k => lawE (552 + k)) = true := by decide +kernel
theorem ckl_5 : (List.range 138).all (fun k => lawE (690 + k)) = true := by decide +kernel
theorem ckl_6 : (List.range 138).all (fun k => lawE (828 + k)) = true := by decide +kernel
theorem ckl_7 : (List.range 138).all (fun k => lawE (966 + k)) = true := by decide +kernel
theorem ckl_8 : (List.range 138).all (fun k => lawE (1104 + k)) = true := by decide +kernel
theorem ckl_9 : (List.range 138).all (fun k => lawE (1242 + k)) = true := by decide +kernel
theorem ckl_10 : (List.range 138).all (fun k => lawE (1380 + k)) = true := by decide +kernel
theorem ckl_11 : (List.range 138).all (fun k => lawE (1518 + k)) = true := by decide +kernel
theorem ckl_at {lo : Nat} (h : (List.range 138).all (fun k => lawE (lo + k)) = true) {pc : Nat} (h1 : lo ≤ pc) (h2 : pc < lo + 138) : lawE pc = true := by
  have := List.all_eq_true.mp h (pc - lo) (List.mem_range.mpr (by omega))
  rw [show lo + (pc - lo) = pc by omega] at this
  exact this
theorem ckl_all : CHK 16 (some .boolean) 4 false code cd_law_law 1656 = true := by
  unfold CHK
  rw [List.all_eq_true]
  intro pc hp
  have hp := List.mem_range.mp hp
  by_cases h0 : pc < 138
  · exact ckl_at ckl_0 (by omega) (by omega)
  by_cases h1 : pc < 276
  · exact ckl_at ckl_1 (by omega) (by omega)
  by_cases h2 : pc < 414
  · exact ckl_at ckl_2 (by omega) (by omega)
  by_cases h3 : pc < 552
  · exact ckl_at ckl_3 (by omega) (by omega)
  by_cases h4 : pc < 690
  · exact ckl_at ckl_4 (by omega) (by omega)
  by_cases h5 : pc < 828
  · exact ckl_at ckl_5 (by omega) (by omega)
  by_cases h6 : pc < 966
  · exact ckl_at ckl_6 (by omega) (by omega)
  by_cases h7 : pc < 1104
  · exact ckl_at ckl_7 (by omega) (by omega)
  by_cases h8 : pc < 1242
  · exact ckl_at ckl_8 (by omega) (by omega)
  by_cases h9 : pc < 1380
  · exact ckl_at ckl_9 (by omega) (by omega)
  by_cases h10 : pc < 1518
  · exact ckl_at ckl_10 (by omega) (by omega)
  by_cases h11 : pc < 1656
  · exact ckl_at ckl_11 (by omega) (by omega)
  omega
theorem ck_law : ∀ pc, okE 16 (some .boolean) 4 false code pc (fch cd_law_law pc) = true := okE_all (M := 1656) (far_of (T := fun pc => _) rfl) ckl_all
