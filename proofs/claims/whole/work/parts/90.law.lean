/-! The law's loop -/
theorem lw_gt {i L : Nat} (hi : i < 5000) (hL : L < 5000) : am_c2 .gt (nI i) (nI L - nI 4) = decide (L < i + 4) := by
  unfold am_c2
  apply decide_eq_decide.mpr
  rw [Int32.lt_iff_toInt_lt, pk_sub_toInt (by omega) (by omega), nI_toInt (by omega)]
  omega
theorem cl_56 {k : Nat} (h : k ∈ clL) : k < 56 := List.mem_range.mp h
theorem mL_56 : ∀ k, k < 56 → k ∉ mLs := fun k hk z => by have := mem_mLs.mp z; omega
def alL : List Nat := List.range 76
theorem al_cl : ∀ k ∈ clL, k ∈ alL := fun k hk => List.mem_range.mpr (by have := cl_56 hk; omega)
theorem al_ml : ∀ k ∈ mLs, k ∈ alL := fun k hk => List.mem_range.mpr (by have := mem_mLs.mp hk; omega)
/-- class and reference hold the same -/
def lwI (h : am_H) (S : Sg) : Prop := isS h S ∧ isMS h S ∧ fr alL am_h0 h
/-- one call of each: they answer the same -/
def lwC (h : am_H) (h' : am_H) (S : Sg) : Prop := isS h' S ∧ isMS h' S ∧ fr alL h h'
theorem isS.o {h : am_H} {S : Sg} (H : isS h S) : ∃ fs, h[0]? = some (.inr (0, fs)) := ⟨_, H.1⟩
theorem lwI.go {h h' : am_H} {S S' : Sg} (H : lwI h S) (H' : lwC h h' S') : lwI h' S' := ⟨H'.1, H'.2.1, H.2.2.tr H'.2.2 (fun _ z => z) (fun _ z => z)⟩
theorem lwC_of {h h1 h2 : am_H} {S : Sg} (a : isS h1 S) (f1 : fr clL h h1) (b : isMS h2 S) (f2 : fr mLs h1 h2) : lwC h h2 S :=
  ⟨isCl.mv a f2 mL_56, b, f1.tr f2 al_cl al_ml⟩
theorem isMS_bk {h h1 : am_H} {S : Sg} {B : Nat → Bk} (H : isMS h S) (hf : fr [57, 58, 59, 60, 61] h h1) (hb : isMb h1 B) : isMS h1 (B, S.2) := by
  obtain ⟨⟨pr, uD, lD, nd, tn, a⟩, b, ⟨T, c⟩, d, e⟩ := H
  exact ⟨⟨pr, uD, lD, nd, tn, hf.at a (by simp)⟩, hb, ⟨T, c.mv hf (fun k _ _ => by simp; omega)⟩, d.mv hf (fun k _ _ => by simp; omega), e.mv hf (by simp) (by simp)⟩
theorem c_M_diff2 (X : am_X) (d : Nat) (h : am_H) {B : Nat → Bk} {s : Int64} {ud ld pr uD lD nd tn : Int32} (h56 : isM0 h s ud ld pr uD lD nd tn) (hB : isMb h B) (v w : Int32) : ar Pg X (d + 1 + 1) n_M_difference 0 [some (.ref 56), some (.int v), some (.int w)] [] h (fun rr h' => rr = some (.int (dfR B v w)) ∧ h' = h) := by
  rw [← df_eq (B := B) (fun c hc => by obtain ⟨sz, nu, ve, gr, dr, _, hc0⟩ := hB; exact (hc0 c hc).2.1) v w]
  exact c_M_difference X d h h56 hB v w
theorem c_M_fac2 (X : am_X) (h : am_H) {s : Int64} {pr uD lD nd tn : Int32} {u l : Nat} {U W : Nat → Nat} (h56 : isM0 h s (nI u) (nI l) pr uD lD nd tn) (hp : isMp h u U l W) (v w : Int32) : ar Pg X 9 n_M_factor 0 [some (.ref 56), some (.int v), some (.int w)] [] h (fun rr h' => rr = some (.int (fcR u U l W v w)) ∧ h' = h) := by
  obtain ⟨a, b, U1, W1, c, d, e, f, g, k⟩ := hp
  exact c_M_factor X 9 h h56 c e a b d f g k v w
theorem lg_self (x : Int64) : lg_cmp x x = 0 := by
  unfold lg_cmp
  rw [if_neg (Int64.lt_irrefl), if_pos rfl]
set_option maxRecDepth 100000 in
theorem lw_0 {L i : Nat} {xs : Nat → Int32} {h : am_H} {S : Sg} (hi : i + 4 ≤ L) (hL : L ≤ 2048) (hI : lwI h S) {Q : Option Value → am_H → Prop} (K : ∀ (h' : am_H) (S' : Sg), lwC h h' S' → ar Pg (am_xs L xs) 10 n_L_law 584 [some (.ref am_x0), some (.ref 0), some (.ref 56), some (.int (nI i))] [] h' Q) : ar Pg (am_xs L xs) 10 n_L_law 108 [some (.ref am_x0), some (.ref 0), some (.ref 56), some (.int (nI i))] [] h Q := by
  obtain ⟨fs0, h0c⟩ := hI.1.o
  refine ar_go M_L_law 5 _ 113 _ [some (.ref am_x0), some (.ref 0), some (.ref 56), some (.int (nI i))] _ [.int (nI i + nI 1), .ref am_x0, .ref 0] rfl ?_
  refine ar_top (w := .int (nI (i + 1))) (congrArg Value.int (nI_add i 1)) ?_
  refine ar_xald (a := 0) M_L_law rfl (by decide) (vp_in_nI (N := L) (show i + 1 < L by omega) (by omega)) ?_
  show ar Pg _ _ _ 114 [some (.ref am_x0), some (.ref 0), some (.ref 56), some (.int (nI i))] [.int (xs (nI (i + 1)).toNatClampNeg), .ref 0] _ _
  rw [nI_clamp (show i + 1 < 2 ^ 31 by omega)]
  refine ar_go M_L_law 4 _ 118 _ [some (.ref am_x0), some (.ref 0), some (.ref 56), some (.int (nI i))] _ [.int (nI i + nI 2), .ref am_x0, .int (xs (i + 1)), .ref 0] rfl ?_
  refine ar_top (w := .int (nI (i + 2))) (congrArg Value.int (nI_add i 2)) ?_
  refine ar_xald (a := 0) M_L_law rfl (by decide) (vp_in_nI (N := L) (show i + 2 < L by omega) (by omega)) ?_
  show ar Pg _ _ _ 119 [some (.ref am_x0), some (.ref 0), some (.ref 56), some (.int (nI i))] [.int (xs (nI (i + 2)).toNatClampNeg), .int (xs (i + 1)), .ref 0] _ _
  rw [nI_clamp (show i + 2 < 2 ^ 31 by omega)]
  refine ar_go M_L_law 4 _ 123 _ [some (.ref am_x0), some (.ref 0), some (.ref 56), some (.int (nI i))] _ [.int (nI i + nI 3), .ref am_x0, .int (xs (i + 2)), .int (xs (i + 1)), .ref 0] rfl ?_
  refine ar_top (w := .int (nI (i + 3))) (congrArg Value.int (nI_add i 3)) ?_
  refine ar_xald (a := 0) M_L_law rfl (by decide) (vp_in_nI (N := L) (show i + 3 < L by omega) (by omega)) ?_
  show ar Pg _ _ _ 124 [some (.ref am_x0), some (.ref 0), some (.ref 56), some (.int (nI i))] [.int (xs (nI (i + 3)).toNatClampNeg), .int (xs (i + 2)), .int (xs (i + 1)), .ref 0] _ _
  rw [nI_clamp (show i + 3 < 2 ^ 31 by omega)]
  refine ar_CV M_L_law rfl rfl (Or.inl rfl) rfl rfl (Nat.le_of_ble_eq_true rfl) h0c M_B_put (Nat.le_of_ble_eq_true rfl) (c_B_put (am_xs L xs) 7 _ hI.1 (xs (i + 1)) (xs (i + 2)) (xs (i + 3))) (fun r1 h2 hq => ?_)
  obtain ⟨rfl, hS2, hf2⟩ := hq
  refine ⟨hf2.1, ?_⟩
  show ar Pg _ _ _ 127 [some (.ref am_x0), some (.ref 0), some (.ref 56), some (.int (nI i))] [.int (ptR S.1 (xs (i + 1)) (xs (i + 2)))] _ _
  have hM2 := hI.2.1.mv hf2 (fun k hk => cl_56 hk)
  obtain ⟨fs5, h5c⟩ := hM2.o
  have hMS := hM2
  obtain ⟨⟨pr, uD, lD, nd, tn, m56⟩, mB, ⟨T, mT⟩, mw, mp⟩ := hMS
  refine ar_go M_L_law 5 _ 132 _ [some (.ref am_x0), some (.ref 0), some (.ref 56), some (.int (nI i))] _ [.int (nI i + nI 1), .ref am_x0, .ref 56, .int (ptR S.1 (xs (i + 1)) (xs (i + 2)))] rfl ?_
  refine ar_top (w := .int (nI (i + 1))) (congrArg Value.int (nI_add i 1)) ?_
  refine ar_xald (a := 0) M_L_law rfl (by decide) (vp_in_nI (N := L) (show i + 1 < L by omega) (by omega)) ?_
  show ar Pg _ _ _ 133 [some (.ref am_x0), some (.ref 0), some (.ref 56), some (.int (nI i))] [.int (xs (nI (i + 1)).toNatClampNeg), .ref 56, .int (ptR S.1 (xs (i + 1)) (xs (i + 2)))] _ _
  rw [nI_clamp (show i + 1 < 2 ^ 31 by omega)]
  refine ar_go M_L_law 4 _ 137 _ [some (.ref am_x0), some (.ref 0), some (.ref 56), some (.int (nI i))] _ [.int (nI i + nI 2), .ref am_x0, .int (xs (i + 1)), .ref 56, .int (ptR S.1 (xs (i + 1)) (xs (i + 2)))] rfl ?_
  refine ar_top (w := .int (nI (i + 2))) (congrArg Value.int (nI_add i 2)) ?_
  refine ar_xald (a := 0) M_L_law rfl (by decide) (vp_in_nI (N := L) (show i + 2 < L by omega) (by omega)) ?_
  show ar Pg _ _ _ 138 [some (.ref am_x0), some (.ref 0), some (.ref 56), some (.int (nI i))] [.int (xs (nI (i + 2)).toNatClampNeg), .int (xs (i + 1)), .ref 56, .int (ptR S.1 (xs (i + 1)) (xs (i + 2)))] _ _
  rw [nI_clamp (show i + 2 < 2 ^ 31 by omega)]
  refine ar_go M_L_law 4 _ 142 _ [some (.ref am_x0), some (.ref 0), some (.ref 56), some (.int (nI i))] _ [.int (nI i + nI 3), .ref am_x0, .int (xs (i + 2)), .int (xs (i + 1)), .ref 56, .int (ptR S.1 (xs (i + 1)) (xs (i + 2)))] rfl ?_
  refine ar_top (w := .int (nI (i + 3))) (congrArg Value.int (nI_add i 3)) ?_
  refine ar_xald (a := 0) M_L_law rfl (by decide) (vp_in_nI (N := L) (show i + 3 < L by omega) (by omega)) ?_
  show ar Pg _ _ _ 143 [some (.ref am_x0), some (.ref 0), some (.ref 56), some (.int (nI i))] [.int (xs (nI (i + 3)).toNatClampNeg), .int (xs (i + 2)), .int (xs (i + 1)), .ref 56, .int (ptR S.1 (xs (i + 1)) (xs (i + 2)))] _ _
  rw [nI_clamp (show i + 3 < 2 ^ 31 by omega)]
  refine ar_CV M_L_law rfl rfl (Or.inl rfl) rfl rfl (Nat.le_of_ble_eq_true rfl) h5c M_M_put (Nat.le_of_ble_eq_true rfl) (c_M_put (am_xs L xs) 8 _ m56 mB (xs (i + 1)) (xs (i + 2)) (xs (i + 3))) (fun r1 h3 hq => ?_)
  obtain ⟨rfl, hf3, m563, mB3⟩ := hq
  refine ⟨hf3.1, ?_⟩
  show ar Pg _ _ _ 146 [some (.ref am_x0), some (.ref 0), some (.ref 56), some (.int (nI i))] [.int (ptR S.1 (xs (i + 1)) (xs (i + 2))), .int (ptR S.1 (xs (i + 1)) (xs (i + 2)))] _ _
  refine ar_icmp M_L_law rfl rfl (fun _ => ?_) (fun z => absurd rfl (of_decide_eq_false z))
  exact K _ (ptB S.1 (xs (i + 1)) (xs (i + 2)) (xs (i + 3)), S.2) (lwC_of hS2 hf2 (isMS_bk hM2 hf3 mB3) (hf3.mono (mL_of (by simp))))
set_option maxRecDepth 100000 in
theorem lw_1 {L i : Nat} {xs : Nat → Int32} {h : am_H} {S : Sg} (hi : i + 4 ≤ L) (hL : L ≤ 2048) (hI : lwI h S) {Q : Option Value → am_H → Prop} (K : ∀ (h' : am_H) (S' : Sg), lwC h h' S' → ar Pg (am_xs L xs) 10 n_L_law 584 [some (.ref am_x0), some (.ref 0), some (.ref 56), some (.int (nI i))] [] h' Q) : ar Pg (am_xs L xs) 10 n_L_law 151 [some (.ref am_x0), some (.ref 0), some (.ref 56), some (.int (nI i))] [] h Q := by
  obtain ⟨fs0, h0c⟩ := hI.1.o
  refine ar_go M_L_law 5 _ 156 _ [some (.ref am_x0), some (.ref 0), some (.ref 56), some (.int (nI i))] _ [.int (nI i + nI 1), .ref am_x0, .ref 0] rfl ?_
  refine ar_top (w := .int (nI (i + 1))) (congrArg Value.int (nI_add i 1)) ?_
  refine ar_xald (a := 0) M_L_law rfl (by decide) (vp_in_nI (N := L) (show i + 1 < L by omega) (by omega)) ?_
  show ar Pg _ _ _ 157 [some (.ref am_x0), some (.ref 0), some (.ref 56), some (.int (nI i))] [.int (xs (nI (i + 1)).toNatClampNeg), .ref 0] _ _
  rw [nI_clamp (show i + 1 < 2 ^ 31 by omega)]
  refine ar_go M_L_law 4 _ 161 _ [some (.ref am_x0), some (.ref 0), some (.ref 56), some (.int (nI i))] _ [.int (nI i + nI 2), .ref am_x0, .int (xs (i + 1)), .ref 0] rfl ?_
  refine ar_top (w := .int (nI (i + 2))) (congrArg Value.int (nI_add i 2)) ?_
  refine ar_xald (a := 0) M_L_law rfl (by decide) (vp_in_nI (N := L) (show i + 2 < L by omega) (by omega)) ?_
  show ar Pg _ _ _ 162 [some (.ref am_x0), some (.ref 0), some (.ref 56), some (.int (nI i))] [.int (xs (nI (i + 2)).toNatClampNeg), .int (xs (i + 1)), .ref 0] _ _
  rw [nI_clamp (show i + 2 < 2 ^ 31 by omega)]
  refine ar_CV M_L_law rfl rfl (Or.inl rfl) rfl rfl (Nat.le_of_ble_eq_true rfl) h0c M_B_drop (Nat.le_of_ble_eq_true rfl) (c_B_drop (am_xs L xs) 7 _ hI.1 (xs (i + 1)) (xs (i + 2))) (fun r1 h2 hq => ?_)
  obtain ⟨rfl, hS2, hf2⟩ := hq
  refine ⟨hf2.1, ?_⟩
  show ar Pg _ _ _ 165 [some (.ref am_x0), some (.ref 0), some (.ref 56), some (.int (nI i))] [.int (dpR S.1 (xs (i + 1)) (xs (i + 2)))] _ _
  have hM2 := hI.2.1.mv hf2 (fun k hk => cl_56 hk)
  obtain ⟨fs5, h5c⟩ := hM2.o
  have hMS := hM2
  obtain ⟨⟨pr, uD, lD, nd, tn, m56⟩, mB, ⟨T, mT⟩, mw, mp⟩ := hMS
  refine ar_go M_L_law 5 _ 170 _ [some (.ref am_x0), some (.ref 0), some (.ref 56), some (.int (nI i))] _ [.int (nI i + nI 1), .ref am_x0, .ref 56, .int (dpR S.1 (xs (i + 1)) (xs (i + 2)))] rfl ?_
  refine ar_top (w := .int (nI (i + 1))) (congrArg Value.int (nI_add i 1)) ?_
  refine ar_xald (a := 0) M_L_law rfl (by decide) (vp_in_nI (N := L) (show i + 1 < L by omega) (by omega)) ?_
  show ar Pg _ _ _ 171 [some (.ref am_x0), some (.ref 0), some (.ref 56), some (.int (nI i))] [.int (xs (nI (i + 1)).toNatClampNeg), .ref 56, .int (dpR S.1 (xs (i + 1)) (xs (i + 2)))] _ _
  rw [nI_clamp (show i + 1 < 2 ^ 31 by omega)]
  refine ar_go M_L_law 4 _ 175 _ [some (.ref am_x0), some (.ref 0), some (.ref 56), some (.int (nI i))] _ [.int (nI i + nI 2), .ref am_x0, .int (xs (i + 1)), .ref 56, .int (dpR S.1 (xs (i + 1)) (xs (i + 2)))] rfl ?_
  refine ar_top (w := .int (nI (i + 2))) (congrArg Value.int (nI_add i 2)) ?_
  refine ar_xald (a := 0) M_L_law rfl (by decide) (vp_in_nI (N := L) (show i + 2 < L by omega) (by omega)) ?_
  show ar Pg _ _ _ 176 [some (.ref am_x0), some (.ref 0), some (.ref 56), some (.int (nI i))] [.int (xs (nI (i + 2)).toNatClampNeg), .int (xs (i + 1)), .ref 56, .int (dpR S.1 (xs (i + 1)) (xs (i + 2)))] _ _
  rw [nI_clamp (show i + 2 < 2 ^ 31 by omega)]
  refine ar_CV M_L_law rfl rfl (Or.inl rfl) rfl rfl (Nat.le_of_ble_eq_true rfl) h5c M_M_drop (Nat.le_of_ble_eq_true rfl) (c_M_drop (am_xs L xs) 8 _ m56 mB (xs (i + 1)) (xs (i + 2))) (fun r1 h3 hq => ?_)
  obtain ⟨rfl, hf3, m563, mB3⟩ := hq
  refine ⟨hf3.1, ?_⟩
  show ar Pg _ _ _ 179 [some (.ref am_x0), some (.ref 0), some (.ref 56), some (.int (nI i))] [.int (dpR S.1 (xs (i + 1)) (xs (i + 2))), .int (dpR S.1 (xs (i + 1)) (xs (i + 2)))] _ _
  refine ar_icmp M_L_law rfl rfl (fun _ => ?_) (fun z => absurd rfl (of_decide_eq_false z))
  exact K _ (dpB S.1 (xs (i + 1)) (xs (i + 2)), S.2) (lwC_of hS2 hf2 (isMS_bk hM2 hf3 mB3) (hf3.mono (mL_of (by simp))))
set_option maxRecDepth 100000 in
theorem lw_2 {L i : Nat} {xs : Nat → Int32} {h : am_H} {S : Sg} (hi : i + 4 ≤ L) (hL : L ≤ 2048) (hI : lwI h S) {Q : Option Value → am_H → Prop} (K : ∀ (h' : am_H) (S' : Sg), lwC h h' S' → ar Pg (am_xs L xs) 10 n_L_law 584 [some (.ref am_x0), some (.ref 0), some (.ref 56), some (.int (nI i))] [] h' Q) : ar Pg (am_xs L xs) 10 n_L_law 184 [some (.ref am_x0), some (.ref 0), some (.ref 56), some (.int (nI i))] [] h Q := by
  obtain ⟨fs0, h0c⟩ := hI.1.o
  refine ar_go M_L_law 5 _ 189 _ [some (.ref am_x0), some (.ref 0), some (.ref 56), some (.int (nI i))] _ [.int (nI i + nI 1), .ref am_x0, .ref 0] rfl ?_
  refine ar_top (w := .int (nI (i + 1))) (congrArg Value.int (nI_add i 1)) ?_
  refine ar_xald (a := 0) M_L_law rfl (by decide) (vp_in_nI (N := L) (show i + 1 < L by omega) (by omega)) ?_
  show ar Pg _ _ _ 190 [some (.ref am_x0), some (.ref 0), some (.ref 56), some (.int (nI i))] [.int (xs (nI (i + 1)).toNatClampNeg), .ref 0] _ _
  rw [nI_clamp (show i + 1 < 2 ^ 31 by omega)]
  refine ar_go M_L_law 4 _ 194 _ [some (.ref am_x0), some (.ref 0), some (.ref 56), some (.int (nI i))] _ [.int (nI i + nI 2), .ref am_x0, .int (xs (i + 1)), .ref 0] rfl ?_
  refine ar_top (w := .int (nI (i + 2))) (congrArg Value.int (nI_add i 2)) ?_
  refine ar_xald (a := 0) M_L_law rfl (by decide) (vp_in_nI (N := L) (show i + 2 < L by omega) (by omega)) ?_
  show ar Pg _ _ _ 195 [some (.ref am_x0), some (.ref 0), some (.ref 56), some (.int (nI i))] [.int (xs (nI (i + 2)).toNatClampNeg), .int (xs (i + 1)), .ref 0] _ _
  rw [nI_clamp (show i + 2 < 2 ^ 31 by omega)]
  refine ar_CV M_L_law rfl rfl (Or.inl rfl) rfl rfl (Nat.le_of_ble_eq_true rfl) h0c M_B_version (Nat.le_of_ble_eq_true rfl) (c_B_version (am_xs L xs) 7 _ hI.1 (xs (i + 1)) (xs (i + 2))) (fun r1 h2 hq => ?_)
  obtain ⟨rfl, rfl⟩ := hq
  refine ⟨rfl, ?_⟩
  show ar Pg _ _ _ 198 [some (.ref am_x0), some (.ref 0), some (.ref 56), some (.int (nI i))] [.int (vsR S.1 (xs (i + 1)) (xs (i + 2)))] _ _
  obtain ⟨fs5, h5c⟩ := hI.2.1.o
  have hMS := hI.2.1
  obtain ⟨⟨pr, uD, lD, nd, tn, m56⟩, mB, ⟨T, mT⟩, mw, mp⟩ := hMS
  refine ar_go M_L_law 5 _ 203 _ [some (.ref am_x0), some (.ref 0), some (.ref 56), some (.int (nI i))] _ [.int (nI i + nI 1), .ref am_x0, .ref 56, .int (vsR S.1 (xs (i + 1)) (xs (i + 2)))] rfl ?_
  refine ar_top (w := .int (nI (i + 1))) (congrArg Value.int (nI_add i 1)) ?_
  refine ar_xald (a := 0) M_L_law rfl (by decide) (vp_in_nI (N := L) (show i + 1 < L by omega) (by omega)) ?_
  show ar Pg _ _ _ 204 [some (.ref am_x0), some (.ref 0), some (.ref 56), some (.int (nI i))] [.int (xs (nI (i + 1)).toNatClampNeg), .ref 56, .int (vsR S.1 (xs (i + 1)) (xs (i + 2)))] _ _
  rw [nI_clamp (show i + 1 < 2 ^ 31 by omega)]
  refine ar_go M_L_law 4 _ 208 _ [some (.ref am_x0), some (.ref 0), some (.ref 56), some (.int (nI i))] _ [.int (nI i + nI 2), .ref am_x0, .int (xs (i + 1)), .ref 56, .int (vsR S.1 (xs (i + 1)) (xs (i + 2)))] rfl ?_
  refine ar_top (w := .int (nI (i + 2))) (congrArg Value.int (nI_add i 2)) ?_
  refine ar_xald (a := 0) M_L_law rfl (by decide) (vp_in_nI (N := L) (show i + 2 < L by omega) (by omega)) ?_
  show ar Pg _ _ _ 209 [some (.ref am_x0), some (.ref 0), some (.ref 56), some (.int (nI i))] [.int (xs (nI (i + 2)).toNatClampNeg), .int (xs (i + 1)), .ref 56, .int (vsR S.1 (xs (i + 1)) (xs (i + 2)))] _ _
  rw [nI_clamp (show i + 2 < 2 ^ 31 by omega)]
  refine ar_CV M_L_law rfl rfl (Or.inl rfl) rfl rfl (Nat.le_of_ble_eq_true rfl) h5c M_M_version (Nat.le_of_ble_eq_true rfl) (c_M_version (am_xs L xs) 8 _ m56 mB (xs (i + 1)) (xs (i + 2))) (fun r1 h3 hq => ?_)
  obtain ⟨rfl, rfl⟩ := hq
  refine ⟨rfl, ?_⟩
  show ar Pg _ _ _ 212 [some (.ref am_x0), some (.ref 0), some (.ref 56), some (.int (nI i))] [.int (vsR S.1 (xs (i + 1)) (xs (i + 2))), .int (vsR S.1 (xs (i + 1)) (xs (i + 2)))] _ _
  refine ar_icmp M_L_law rfl rfl (fun _ => ?_) (fun z => absurd rfl (of_decide_eq_false z))
  exact K _ S ⟨hI.1, hI.2.1, fr.rf _ _⟩
set_option maxRecDepth 100000 in
theorem lw_3 {L i : Nat} {xs : Nat → Int32} {h : am_H} {S : Sg} (hi : i + 4 ≤ L) (hL : L ≤ 2048) (hI : lwI h S) {Q : Option Value → am_H → Prop} (K : ∀ (h' : am_H) (S' : Sg), lwC h h' S' → ar Pg (am_xs L xs) 10 n_L_law 584 [some (.ref am_x0), some (.ref 0), some (.ref 56), some (.int (nI i))] [] h' Q) : ar Pg (am_xs L xs) 10 n_L_law 217 [some (.ref am_x0), some (.ref 0), some (.ref 56), some (.int (nI i))] [] h Q := by
  obtain ⟨fs0, h0c⟩ := hI.1.o
  refine ar_go M_L_law 5 _ 222 _ [some (.ref am_x0), some (.ref 0), some (.ref 56), some (.int (nI i))] _ [.int (nI i + nI 1), .ref am_x0, .ref 0] rfl ?_
  refine ar_top (w := .int (nI (i + 1))) (congrArg Value.int (nI_add i 1)) ?_
  refine ar_xald (a := 0) M_L_law rfl (by decide) (vp_in_nI (N := L) (show i + 1 < L by omega) (by omega)) ?_
  show ar Pg _ _ _ 223 [some (.ref am_x0), some (.ref 0), some (.ref 56), some (.int (nI i))] [.int (xs (nI (i + 1)).toNatClampNeg), .ref 0] _ _
  rw [nI_clamp (show i + 1 < 2 ^ 31 by omega)]
  refine ar_go M_L_law 4 _ 227 _ [some (.ref am_x0), some (.ref 0), some (.ref 56), some (.int (nI i))] _ [.int (nI i + nI 2), .ref am_x0, .int (xs (i + 1)), .ref 0] rfl ?_
  refine ar_top (w := .int (nI (i + 2))) (congrArg Value.int (nI_add i 2)) ?_
  refine ar_xald (a := 0) M_L_law rfl (by decide) (vp_in_nI (N := L) (show i + 2 < L by omega) (by omega)) ?_
  show ar Pg _ _ _ 228 [some (.ref am_x0), some (.ref 0), some (.ref 56), some (.int (nI i))] [.int (xs (nI (i + 2)).toNatClampNeg), .int (xs (i + 1)), .ref 0] _ _
  rw [nI_clamp (show i + 2 < 2 ^ 31 by omega)]
  refine ar_CV M_L_law rfl rfl (Or.inl rfl) rfl rfl (Nat.le_of_ble_eq_true rfl) h0c M_B_grams (Nat.le_of_ble_eq_true rfl) (c_B_grams (am_xs L xs) 7 _ hI.1 (xs (i + 1)) (xs (i + 2))) (fun r1 h2 hq => ?_)
  obtain ⟨rfl, rfl⟩ := hq
  refine ⟨rfl, ?_⟩
  show ar Pg _ _ _ 231 [some (.ref am_x0), some (.ref 0), some (.ref 56), some (.int (nI i))] [.int (grR S.1 (xs (i + 1)) (xs (i + 2)))] _ _
  obtain ⟨fs5, h5c⟩ := hI.2.1.o
  have hMS := hI.2.1
  obtain ⟨⟨pr, uD, lD, nd, tn, m56⟩, mB, ⟨T, mT⟩, mw, mp⟩ := hMS
  refine ar_go M_L_law 5 _ 236 _ [some (.ref am_x0), some (.ref 0), some (.ref 56), some (.int (nI i))] _ [.int (nI i + nI 1), .ref am_x0, .ref 56, .int (grR S.1 (xs (i + 1)) (xs (i + 2)))] rfl ?_
  refine ar_top (w := .int (nI (i + 1))) (congrArg Value.int (nI_add i 1)) ?_
  refine ar_xald (a := 0) M_L_law rfl (by decide) (vp_in_nI (N := L) (show i + 1 < L by omega) (by omega)) ?_
  show ar Pg _ _ _ 237 [some (.ref am_x0), some (.ref 0), some (.ref 56), some (.int (nI i))] [.int (xs (nI (i + 1)).toNatClampNeg), .ref 56, .int (grR S.1 (xs (i + 1)) (xs (i + 2)))] _ _
  rw [nI_clamp (show i + 1 < 2 ^ 31 by omega)]
  refine ar_go M_L_law 4 _ 241 _ [some (.ref am_x0), some (.ref 0), some (.ref 56), some (.int (nI i))] _ [.int (nI i + nI 2), .ref am_x0, .int (xs (i + 1)), .ref 56, .int (grR S.1 (xs (i + 1)) (xs (i + 2)))] rfl ?_
  refine ar_top (w := .int (nI (i + 2))) (congrArg Value.int (nI_add i 2)) ?_
  refine ar_xald (a := 0) M_L_law rfl (by decide) (vp_in_nI (N := L) (show i + 2 < L by omega) (by omega)) ?_
  show ar Pg _ _ _ 242 [some (.ref am_x0), some (.ref 0), some (.ref 56), some (.int (nI i))] [.int (xs (nI (i + 2)).toNatClampNeg), .int (xs (i + 1)), .ref 56, .int (grR S.1 (xs (i + 1)) (xs (i + 2)))] _ _
  rw [nI_clamp (show i + 2 < 2 ^ 31 by omega)]
  refine ar_CV M_L_law rfl rfl (Or.inl rfl) rfl rfl (Nat.le_of_ble_eq_true rfl) h5c M_M_grams (Nat.le_of_ble_eq_true rfl) (c_M_grams (am_xs L xs) 8 _ m56 mB (xs (i + 1)) (xs (i + 2))) (fun r1 h3 hq => ?_)
  obtain ⟨rfl, rfl⟩ := hq
  refine ⟨rfl, ?_⟩
  show ar Pg _ _ _ 245 [some (.ref am_x0), some (.ref 0), some (.ref 56), some (.int (nI i))] [.int (grR S.1 (xs (i + 1)) (xs (i + 2))), .int (grR S.1 (xs (i + 1)) (xs (i + 2)))] _ _
  refine ar_icmp M_L_law rfl rfl (fun _ => ?_) (fun z => absurd rfl (of_decide_eq_false z))
  exact K _ S ⟨hI.1, hI.2.1, fr.rf _ _⟩
set_option maxRecDepth 100000 in
theorem lw_4 {L i : Nat} {xs : Nat → Int32} {h : am_H} {S : Sg} (hi : i + 4 ≤ L) (hL : L ≤ 2048) (hI : lwI h S) {Q : Option Value → am_H → Prop} (K : ∀ (h' : am_H) (S' : Sg), lwC h h' S' → ar Pg (am_xs L xs) 10 n_L_law 584 [some (.ref am_x0), some (.ref 0), some (.ref 56), some (.int (nI i))] [] h' Q) : ar Pg (am_xs L xs) 10 n_L_law 250 [some (.ref am_x0), some (.ref 0), some (.ref 56), some (.int (nI i))] [] h Q := by
  obtain ⟨fs0, h0c⟩ := hI.1.o
  refine ar_go M_L_law 5 _ 255 _ [some (.ref am_x0), some (.ref 0), some (.ref 56), some (.int (nI i))] _ [.int (nI i + nI 1), .ref am_x0, .ref 0] rfl ?_
  refine ar_top (w := .int (nI (i + 1))) (congrArg Value.int (nI_add i 1)) ?_
  refine ar_xald (a := 0) M_L_law rfl (by decide) (vp_in_nI (N := L) (show i + 1 < L by omega) (by omega)) ?_
  show ar Pg _ _ _ 256 [some (.ref am_x0), some (.ref 0), some (.ref 56), some (.int (nI i))] [.int (xs (nI (i + 1)).toNatClampNeg), .ref 0] _ _
  rw [nI_clamp (show i + 1 < 2 ^ 31 by omega)]
  refine ar_CV M_L_law rfl rfl (Or.inl rfl) rfl rfl (Nat.le_of_ble_eq_true rfl) h0c M_B_size (Nat.le_of_ble_eq_true rfl) (c_B_size (am_xs L xs) 7 _ hI.1 (xs (i + 1))) (fun r1 h2 hq => ?_)
  obtain ⟨rfl, rfl⟩ := hq
  refine ⟨rfl, ?_⟩
  show ar Pg _ _ _ 259 [some (.ref am_x0), some (.ref 0), some (.ref 56), some (.int (nI i))] [.int (szR S.1 (xs (i + 1)))] _ _
  obtain ⟨fs5, h5c⟩ := hI.2.1.o
  have hMS := hI.2.1
  obtain ⟨⟨pr, uD, lD, nd, tn, m56⟩, mB, ⟨T, mT⟩, mw, mp⟩ := hMS
  refine ar_go M_L_law 5 _ 264 _ [some (.ref am_x0), some (.ref 0), some (.ref 56), some (.int (nI i))] _ [.int (nI i + nI 1), .ref am_x0, .ref 56, .int (szR S.1 (xs (i + 1)))] rfl ?_
  refine ar_top (w := .int (nI (i + 1))) (congrArg Value.int (nI_add i 1)) ?_
  refine ar_xald (a := 0) M_L_law rfl (by decide) (vp_in_nI (N := L) (show i + 1 < L by omega) (by omega)) ?_
  show ar Pg _ _ _ 265 [some (.ref am_x0), some (.ref 0), some (.ref 56), some (.int (nI i))] [.int (xs (nI (i + 1)).toNatClampNeg), .ref 56, .int (szR S.1 (xs (i + 1)))] _ _
  rw [nI_clamp (show i + 1 < 2 ^ 31 by omega)]
  refine ar_CV M_L_law rfl rfl (Or.inl rfl) rfl rfl (Nat.le_of_ble_eq_true rfl) h5c M_M_size (Nat.le_of_ble_eq_true rfl) (c_M_size (am_xs L xs) 8 _ m56 mB (xs (i + 1))) (fun r1 h3 hq => ?_)
  obtain ⟨rfl, rfl⟩ := hq
  refine ⟨rfl, ?_⟩
  show ar Pg _ _ _ 268 [some (.ref am_x0), some (.ref 0), some (.ref 56), some (.int (nI i))] [.int (szR S.1 (xs (i + 1))), .int (szR S.1 (xs (i + 1)))] _ _
  refine ar_icmp M_L_law rfl rfl (fun _ => ?_) (fun z => absurd rfl (of_decide_eq_false z))
  exact K _ S ⟨hI.1, hI.2.1, fr.rf _ _⟩
set_option maxRecDepth 100000 in
theorem lw_5 {L i : Nat} {xs : Nat → Int32} {h : am_H} {S : Sg} (hi : i + 4 ≤ L) (hL : L ≤ 2048) (hI : lwI h S) {Q : Option Value → am_H → Prop} (K : ∀ (h' : am_H) (S' : Sg), lwC h h' S' → ar Pg (am_xs L xs) 10 n_L_law 584 [some (.ref am_x0), some (.ref 0), some (.ref 56), some (.int (nI i))] [] h' Q) : ar Pg (am_xs L xs) 10 n_L_law 273 [some (.ref am_x0), some (.ref 0), some (.ref 56), some (.int (nI i))] [] h Q := by
  obtain ⟨fs0, h0c⟩ := hI.1.o
  refine ar_go M_L_law 5 _ 278 _ [some (.ref am_x0), some (.ref 0), some (.ref 56), some (.int (nI i))] _ [.int (nI i + nI 1), .ref am_x0, .ref 0] rfl ?_
  refine ar_top (w := .int (nI (i + 1))) (congrArg Value.int (nI_add i 1)) ?_
  refine ar_xald (a := 0) M_L_law rfl (by decide) (vp_in_nI (N := L) (show i + 1 < L by omega) (by omega)) ?_
  show ar Pg _ _ _ 279 [some (.ref am_x0), some (.ref 0), some (.ref 56), some (.int (nI i))] [.int (xs (nI (i + 1)).toNatClampNeg), .ref 0] _ _
  rw [nI_clamp (show i + 1 < 2 ^ 31 by omega)]
  refine ar_go M_L_law 4 _ 283 _ [some (.ref am_x0), some (.ref 0), some (.ref 56), some (.int (nI i))] _ [.int (nI i + nI 2), .ref am_x0, .int (xs (i + 1)), .ref 0] rfl ?_
  refine ar_top (w := .int (nI (i + 2))) (congrArg Value.int (nI_add i 2)) ?_
  refine ar_xald (a := 0) M_L_law rfl (by decide) (vp_in_nI (N := L) (show i + 2 < L by omega) (by omega)) ?_
  show ar Pg _ _ _ 284 [some (.ref am_x0), some (.ref 0), some (.ref 56), some (.int (nI i))] [.int (xs (nI (i + 2)).toNatClampNeg), .int (xs (i + 1)), .ref 0] _ _
  rw [nI_clamp (show i + 2 < 2 ^ 31 by omega)]
  refine ar_CV M_L_law rfl rfl (Or.inl rfl) rfl rfl (Nat.le_of_ble_eq_true rfl) h0c M_B_word (Nat.le_of_ble_eq_true rfl) (c_B_word (am_xs L xs) 7 _ hI.1 (xs (i + 1)) (xs (i + 2))) (fun r1 h2 hq => ?_)
  obtain ⟨rfl, rfl⟩ := hq
  refine ⟨rfl, ?_⟩
  show ar Pg _ _ _ 287 [some (.ref am_x0), some (.ref 0), some (.ref 56), some (.int (nI i))] [.int (wdR S.1 (xs (i + 1)) (xs (i + 2)))] _ _
  obtain ⟨fs5, h5c⟩ := hI.2.1.o
  have hMS := hI.2.1
  obtain ⟨⟨pr, uD, lD, nd, tn, m56⟩, mB, ⟨T, mT⟩, mw, mp⟩ := hMS
  refine ar_go M_L_law 5 _ 292 _ [some (.ref am_x0), some (.ref 0), some (.ref 56), some (.int (nI i))] _ [.int (nI i + nI 1), .ref am_x0, .ref 56, .int (wdR S.1 (xs (i + 1)) (xs (i + 2)))] rfl ?_
  refine ar_top (w := .int (nI (i + 1))) (congrArg Value.int (nI_add i 1)) ?_
  refine ar_xald (a := 0) M_L_law rfl (by decide) (vp_in_nI (N := L) (show i + 1 < L by omega) (by omega)) ?_
  show ar Pg _ _ _ 293 [some (.ref am_x0), some (.ref 0), some (.ref 56), some (.int (nI i))] [.int (xs (nI (i + 1)).toNatClampNeg), .ref 56, .int (wdR S.1 (xs (i + 1)) (xs (i + 2)))] _ _
  rw [nI_clamp (show i + 1 < 2 ^ 31 by omega)]
  refine ar_go M_L_law 4 _ 297 _ [some (.ref am_x0), some (.ref 0), some (.ref 56), some (.int (nI i))] _ [.int (nI i + nI 2), .ref am_x0, .int (xs (i + 1)), .ref 56, .int (wdR S.1 (xs (i + 1)) (xs (i + 2)))] rfl ?_
  refine ar_top (w := .int (nI (i + 2))) (congrArg Value.int (nI_add i 2)) ?_
  refine ar_xald (a := 0) M_L_law rfl (by decide) (vp_in_nI (N := L) (show i + 2 < L by omega) (by omega)) ?_
  show ar Pg _ _ _ 298 [some (.ref am_x0), some (.ref 0), some (.ref 56), some (.int (nI i))] [.int (xs (nI (i + 2)).toNatClampNeg), .int (xs (i + 1)), .ref 56, .int (wdR S.1 (xs (i + 1)) (xs (i + 2)))] _ _
  rw [nI_clamp (show i + 2 < 2 ^ 31 by omega)]
  refine ar_CV M_L_law rfl rfl (Or.inl rfl) rfl rfl (Nat.le_of_ble_eq_true rfl) h5c M_M_word (Nat.le_of_ble_eq_true rfl) (c_M_word (am_xs L xs) 8 _ m56 mB (xs (i + 1)) (xs (i + 2))) (fun r1 h3 hq => ?_)
  obtain ⟨rfl, rfl⟩ := hq
  refine ⟨rfl, ?_⟩
  show ar Pg _ _ _ 301 [some (.ref am_x0), some (.ref 0), some (.ref 56), some (.int (nI i))] [.int (wdR S.1 (xs (i + 1)) (xs (i + 2))), .int (wdR S.1 (xs (i + 1)) (xs (i + 2)))] _ _
  refine ar_icmp M_L_law rfl rfl (fun _ => ?_) (fun z => absurd rfl (of_decide_eq_false z))
  exact K _ S ⟨hI.1, hI.2.1, fr.rf _ _⟩
set_option maxRecDepth 100000 in
theorem lw_6 {L i : Nat} {xs : Nat → Int32} {h : am_H} {S : Sg} (hi : i + 4 ≤ L) (hL : L ≤ 2048) (hI : lwI h S) {Q : Option Value → am_H → Prop} (K : ∀ (h' : am_H) (S' : Sg), lwC h h' S' → ar Pg (am_xs L xs) 10 n_L_law 584 [some (.ref am_x0), some (.ref 0), some (.ref 56), some (.int (nI i))] [] h' Q) : ar Pg (am_xs L xs) 10 n_L_law 306 [some (.ref am_x0), some (.ref 0), some (.ref 56), some (.int (nI i))] [] h Q := by
  obtain ⟨fs0, h0c⟩ := hI.1.o
  refine ar_go M_L_law 5 _ 311 _ [some (.ref am_x0), some (.ref 0), some (.ref 56), some (.int (nI i))] _ [.int (nI i + nI 1), .ref am_x0, .ref 0] rfl ?_
  refine ar_top (w := .int (nI (i + 1))) (congrArg Value.int (nI_add i 1)) ?_
  refine ar_xald (a := 0) M_L_law rfl (by decide) (vp_in_nI (N := L) (show i + 1 < L by omega) (by omega)) ?_
  show ar Pg _ _ _ 312 [some (.ref am_x0), some (.ref 0), some (.ref 56), some (.int (nI i))] [.int (xs (nI (i + 1)).toNatClampNeg), .ref 0] _ _
  rw [nI_clamp (show i + 1 < 2 ^ 31 by omega)]
  refine ar_go M_L_law 4 _ 316 _ [some (.ref am_x0), some (.ref 0), some (.ref 56), some (.int (nI i))] _ [.int (nI i + nI 2), .ref am_x0, .int (xs (i + 1)), .ref 0] rfl ?_
  refine ar_top (w := .int (nI (i + 2))) (congrArg Value.int (nI_add i 2)) ?_
  refine ar_xald (a := 0) M_L_law rfl (by decide) (vp_in_nI (N := L) (show i + 2 < L by omega) (by omega)) ?_
  show ar Pg _ _ _ 317 [some (.ref am_x0), some (.ref 0), some (.ref 56), some (.int (nI i))] [.int (xs (nI (i + 2)).toNatClampNeg), .int (xs (i + 1)), .ref 0] _ _
  rw [nI_clamp (show i + 2 < 2 ^ 31 by omega)]
  refine ar_CV M_L_law rfl rfl (Or.inl rfl) rfl rfl (Nat.le_of_ble_eq_true rfl) h0c M_B_sample (Nat.le_of_ble_eq_true rfl) (c_B_sample (am_xs L xs) 7 _ hI.1 (xs (i + 1)) (xs (i + 2))) (fun r1 h2 hq => ?_)
  obtain ⟨rfl, rfl⟩ := hq
  refine ⟨rfl, ?_⟩
  show ar Pg _ _ _ 320 [some (.ref am_x0), some (.ref 0), some (.ref 56), some (.int (nI i))] [.int (smR S.1 (xs (i + 1)) (xs (i + 2)))] _ _
  obtain ⟨fs5, h5c⟩ := hI.2.1.o
  have hMS := hI.2.1
  obtain ⟨⟨pr, uD, lD, nd, tn, m56⟩, mB, ⟨T, mT⟩, mw, mp⟩ := hMS
  refine ar_go M_L_law 5 _ 325 _ [some (.ref am_x0), some (.ref 0), some (.ref 56), some (.int (nI i))] _ [.int (nI i + nI 1), .ref am_x0, .ref 56, .int (smR S.1 (xs (i + 1)) (xs (i + 2)))] rfl ?_
  refine ar_top (w := .int (nI (i + 1))) (congrArg Value.int (nI_add i 1)) ?_
  refine ar_xald (a := 0) M_L_law rfl (by decide) (vp_in_nI (N := L) (show i + 1 < L by omega) (by omega)) ?_
  show ar Pg _ _ _ 326 [some (.ref am_x0), some (.ref 0), some (.ref 56), some (.int (nI i))] [.int (xs (nI (i + 1)).toNatClampNeg), .ref 56, .int (smR S.1 (xs (i + 1)) (xs (i + 2)))] _ _
  rw [nI_clamp (show i + 1 < 2 ^ 31 by omega)]
  refine ar_go M_L_law 4 _ 330 _ [some (.ref am_x0), some (.ref 0), some (.ref 56), some (.int (nI i))] _ [.int (nI i + nI 2), .ref am_x0, .int (xs (i + 1)), .ref 56, .int (smR S.1 (xs (i + 1)) (xs (i + 2)))] rfl ?_
  refine ar_top (w := .int (nI (i + 2))) (congrArg Value.int (nI_add i 2)) ?_
  refine ar_xald (a := 0) M_L_law rfl (by decide) (vp_in_nI (N := L) (show i + 2 < L by omega) (by omega)) ?_
  show ar Pg _ _ _ 331 [some (.ref am_x0), some (.ref 0), some (.ref 56), some (.int (nI i))] [.int (xs (nI (i + 2)).toNatClampNeg), .int (xs (i + 1)), .ref 56, .int (smR S.1 (xs (i + 1)) (xs (i + 2)))] _ _
  rw [nI_clamp (show i + 2 < 2 ^ 31 by omega)]
  refine ar_CV M_L_law rfl rfl (Or.inl rfl) rfl rfl (Nat.le_of_ble_eq_true rfl) h5c M_M_sample (Nat.le_of_ble_eq_true rfl) (c_M_sample (am_xs L xs) 7 _ m56 mB (xs (i + 1)) (xs (i + 2))) (fun r1 h3 hq => ?_)
  obtain ⟨rfl, rfl⟩ := hq
  refine ⟨rfl, ?_⟩
  show ar Pg _ _ _ 334 [some (.ref am_x0), some (.ref 0), some (.ref 56), some (.int (nI i))] [.int (smR S.1 (xs (i + 1)) (xs (i + 2))), .int (smR S.1 (xs (i + 1)) (xs (i + 2)))] _ _
  refine ar_icmp M_L_law rfl rfl (fun _ => ?_) (fun z => absurd rfl (of_decide_eq_false z))
  exact K _ S ⟨hI.1, hI.2.1, fr.rf _ _⟩
set_option maxRecDepth 100000 in
theorem lw_7 {L i : Nat} {xs : Nat → Int32} {h : am_H} {S : Sg} (hi : i + 4 ≤ L) (hL : L ≤ 2048) (hI : lwI h S) {Q : Option Value → am_H → Prop} (K : ∀ (h' : am_H) (S' : Sg), lwC h h' S' → ar Pg (am_xs L xs) 10 n_L_law 584 [some (.ref am_x0), some (.ref 0), some (.ref 56), some (.int (nI i))] [] h' Q) : ar Pg (am_xs L xs) 10 n_L_law 339 [some (.ref am_x0), some (.ref 0), some (.ref 56), some (.int (nI i))] [] h Q := by
  obtain ⟨fs0, h0c⟩ := hI.1.o
  refine ar_go M_L_law 5 _ 344 _ [some (.ref am_x0), some (.ref 0), some (.ref 56), some (.int (nI i))] _ [.int (nI i + nI 1), .ref am_x0, .ref 0] rfl ?_
  refine ar_top (w := .int (nI (i + 1))) (congrArg Value.int (nI_add i 1)) ?_
  refine ar_xald (a := 0) M_L_law rfl (by decide) (vp_in_nI (N := L) (show i + 1 < L by omega) (by omega)) ?_
  show ar Pg _ _ _ 345 [some (.ref am_x0), some (.ref 0), some (.ref 56), some (.int (nI i))] [.int (xs (nI (i + 1)).toNatClampNeg), .ref 0] _ _
  rw [nI_clamp (show i + 1 < 2 ^ 31 by omega)]
  refine ar_go M_L_law 4 _ 349 _ [some (.ref am_x0), some (.ref 0), some (.ref 56), some (.int (nI i))] _ [.int (nI i + nI 2), .ref am_x0, .int (xs (i + 1)), .ref 0] rfl ?_
  refine ar_top (w := .int (nI (i + 2))) (congrArg Value.int (nI_add i 2)) ?_
  refine ar_xald (a := 0) M_L_law rfl (by decide) (vp_in_nI (N := L) (show i + 2 < L by omega) (by omega)) ?_
  show ar Pg _ _ _ 350 [some (.ref am_x0), some (.ref 0), some (.ref 56), some (.int (nI i))] [.int (xs (nI (i + 2)).toNatClampNeg), .int (xs (i + 1)), .ref 0] _ _
  rw [nI_clamp (show i + 2 < 2 ^ 31 by omega)]
  refine ar_go M_L_law 4 _ 354 _ [some (.ref am_x0), some (.ref 0), some (.ref 56), some (.int (nI i))] _ [.int (nI i + nI 3), .ref am_x0, .int (xs (i + 2)), .int (xs (i + 1)), .ref 0] rfl ?_
  refine ar_top (w := .int (nI (i + 3))) (congrArg Value.int (nI_add i 3)) ?_
  refine ar_xald (a := 0) M_L_law rfl (by decide) (vp_in_nI (N := L) (show i + 3 < L by omega) (by omega)) ?_
  show ar Pg _ _ _ 355 [some (.ref am_x0), some (.ref 0), some (.ref 56), some (.int (nI i))] [.int (xs (nI (i + 3)).toNatClampNeg), .int (xs (i + 2)), .int (xs (i + 1)), .ref 0] _ _
  rw [nI_clamp (show i + 3 < 2 ^ 31 by omega)]
  refine ar_CV M_L_law rfl rfl (Or.inl rfl) rfl rfl (Nat.le_of_ble_eq_true rfl) h0c M_B_exchange (Nat.le_of_ble_eq_true rfl) (c_B_exchange oO clOk_oO eu_lawp (am_xs L xs) 4 _ hI.1 (xs (i + 1)) (xs (i + 2)) (xs (i + 3))) (fun r1 h2 hq => ?_)
  obtain ⟨rfl, hS2, hf2⟩ := hq
  refine ⟨hf2.1, ?_⟩
  show ar Pg _ _ _ 358 [some (.ref am_x0), some (.ref 0), some (.ref 56), some (.int (nI i))] [.int ((exchF oO S (xs (i + 1)) (xs (i + 2)) (xs (i + 3))).1)] _ _
  have hM2 := hI.2.1.mv hf2 (fun k hk => cl_56 hk)
  obtain ⟨fs5, h5c⟩ := hM2.o
  refine ar_go M_L_law 5 _ 363 _ [some (.ref am_x0), some (.ref 0), some (.ref 56), some (.int (nI i))] _ [.int (nI i + nI 1), .ref am_x0, .ref 56, .int ((exchF oO S (xs (i + 1)) (xs (i + 2)) (xs (i + 3))).1)] rfl ?_
  refine ar_top (w := .int (nI (i + 1))) (congrArg Value.int (nI_add i 1)) ?_
  refine ar_xald (a := 0) M_L_law rfl (by decide) (vp_in_nI (N := L) (show i + 1 < L by omega) (by omega)) ?_
  show ar Pg _ _ _ 364 [some (.ref am_x0), some (.ref 0), some (.ref 56), some (.int (nI i))] [.int (xs (nI (i + 1)).toNatClampNeg), .ref 56, .int ((exchF oO S (xs (i + 1)) (xs (i + 2)) (xs (i + 3))).1)] _ _
  rw [nI_clamp (show i + 1 < 2 ^ 31 by omega)]
  refine ar_go M_L_law 4 _ 368 _ [some (.ref am_x0), some (.ref 0), some (.ref 56), some (.int (nI i))] _ [.int (nI i + nI 2), .ref am_x0, .int (xs (i + 1)), .ref 56, .int ((exchF oO S (xs (i + 1)) (xs (i + 2)) (xs (i + 3))).1)] rfl ?_
  refine ar_top (w := .int (nI (i + 2))) (congrArg Value.int (nI_add i 2)) ?_
  refine ar_xald (a := 0) M_L_law rfl (by decide) (vp_in_nI (N := L) (show i + 2 < L by omega) (by omega)) ?_
  show ar Pg _ _ _ 369 [some (.ref am_x0), some (.ref 0), some (.ref 56), some (.int (nI i))] [.int (xs (nI (i + 2)).toNatClampNeg), .int (xs (i + 1)), .ref 56, .int ((exchF oO S (xs (i + 1)) (xs (i + 2)) (xs (i + 3))).1)] _ _
  rw [nI_clamp (show i + 2 < 2 ^ 31 by omega)]
  refine ar_go M_L_law 4 _ 373 _ [some (.ref am_x0), some (.ref 0), some (.ref 56), some (.int (nI i))] _ [.int (nI i + nI 3), .ref am_x0, .int (xs (i + 2)), .int (xs (i + 1)), .ref 56, .int ((exchF oO S (xs (i + 1)) (xs (i + 2)) (xs (i + 3))).1)] rfl ?_
  refine ar_top (w := .int (nI (i + 3))) (congrArg Value.int (nI_add i 3)) ?_
  refine ar_xald (a := 0) M_L_law rfl (by decide) (vp_in_nI (N := L) (show i + 3 < L by omega) (by omega)) ?_
  show ar Pg _ _ _ 374 [some (.ref am_x0), some (.ref 0), some (.ref 56), some (.int (nI i))] [.int (xs (nI (i + 3)).toNatClampNeg), .int (xs (i + 2)), .int (xs (i + 1)), .ref 56, .int ((exchF oO S (xs (i + 1)) (xs (i + 2)) (xs (i + 3))).1)] _ _
  rw [nI_clamp (show i + 3 < 2 ^ 31 by omega)]
  refine ar_CV M_L_law rfl rfl (Or.inl rfl) rfl rfl (Nat.le_of_ble_eq_true rfl) h5c M_M_exchange (Nat.le_of_ble_eq_true rfl) (c_M_exchange (am_xs L xs) 3 _ hM2 (xs (i + 1)) (xs (i + 2)) (xs (i + 3))) (fun r1 h3 hq => ?_)
  obtain ⟨rfl, hf3, hM3⟩ := hq
  refine ⟨hf3.1, ?_⟩
  show ar Pg _ _ _ 377 [some (.ref am_x0), some (.ref 0), some (.ref 56), some (.int (nI i))] [.int ((exchF oO S (xs (i + 1)) (xs (i + 2)) (xs (i + 3))).1), .int ((exchF oO S (xs (i + 1)) (xs (i + 2)) (xs (i + 3))).1)] _ _
  refine ar_icmp M_L_law rfl rfl (fun _ => ?_) (fun z => absurd rfl (of_decide_eq_false z))
  exact K _ _ (lwC_of hS2 hf2 hM3 hf3)
set_option maxRecDepth 100000 in
theorem lw_8 {L i : Nat} {xs : Nat → Int32} {h : am_H} {S : Sg} (hi : i + 4 ≤ L) (hL : L ≤ 2048) (hI : lwI h S) {Q : Option Value → am_H → Prop} (K : ∀ (h' : am_H) (S' : Sg), lwC h h' S' → ar Pg (am_xs L xs) 10 n_L_law 584 [some (.ref am_x0), some (.ref 0), some (.ref 56), some (.int (nI i))] [] h' Q) : ar Pg (am_xs L xs) 10 n_L_law 382 [some (.ref am_x0), some (.ref 0), some (.ref 56), some (.int (nI i))] [] h Q := by
  obtain ⟨fs0, h0c⟩ := hI.1.o
  refine ar_go M_L_law 5 _ 387 _ [some (.ref am_x0), some (.ref 0), some (.ref 56), some (.int (nI i))] _ [.int (nI i + nI 1), .ref am_x0, .ref 0] rfl ?_
  refine ar_top (w := .int (nI (i + 1))) (congrArg Value.int (nI_add i 1)) ?_
  refine ar_xald (a := 0) M_L_law rfl (by decide) (vp_in_nI (N := L) (show i + 1 < L by omega) (by omega)) ?_
  show ar Pg _ _ _ 388 [some (.ref am_x0), some (.ref 0), some (.ref 56), some (.int (nI i))] [.int (xs (nI (i + 1)).toNatClampNeg), .ref 0] _ _
  rw [nI_clamp (show i + 1 < 2 ^ 31 by omega)]
  refine ar_go M_L_law 4 _ 392 _ [some (.ref am_x0), some (.ref 0), some (.ref 56), some (.int (nI i))] _ [.int (nI i + nI 2), .ref am_x0, .int (xs (i + 1)), .ref 0] rfl ?_
  refine ar_top (w := .int (nI (i + 2))) (congrArg Value.int (nI_add i 2)) ?_
  refine ar_xald (a := 0) M_L_law rfl (by decide) (vp_in_nI (N := L) (show i + 2 < L by omega) (by omega)) ?_
  show ar Pg _ _ _ 393 [some (.ref am_x0), some (.ref 0), some (.ref 56), some (.int (nI i))] [.int (xs (nI (i + 2)).toNatClampNeg), .int (xs (i + 1)), .ref 0] _ _
  rw [nI_clamp (show i + 2 < 2 ^ 31 by omega)]
  refine ar_CV M_L_law rfl rfl (Or.inl rfl) rfl rfl (Nat.le_of_ble_eq_true rfl) h0c M_B_list (Nat.le_of_ble_eq_true rfl) (c_B_list (am_xs L xs) 4 _ hI.1 (xs (i + 1)) (xs (i + 2))) (fun r1 h2 hq => ?_)
  obtain ⟨rfl, hS2, hf2⟩ := hq
  refine ⟨hf2.1, ?_⟩
  show ar Pg _ _ _ 396 [some (.ref am_x0), some (.ref 0), some (.ref 56), some (.int (nI i))] [.int ((listF S (xs (i + 1)) (xs (i + 2))).1)] _ _
  have hM2 := hI.2.1.mv hf2 (fun k hk => cl_56 hk)
  obtain ⟨fs5, h5c⟩ := hM2.o
  refine ar_go M_L_law 5 _ 401 _ [some (.ref am_x0), some (.ref 0), some (.ref 56), some (.int (nI i))] _ [.int (nI i + nI 1), .ref am_x0, .ref 56, .int ((listF S (xs (i + 1)) (xs (i + 2))).1)] rfl ?_
  refine ar_top (w := .int (nI (i + 1))) (congrArg Value.int (nI_add i 1)) ?_
  refine ar_xald (a := 0) M_L_law rfl (by decide) (vp_in_nI (N := L) (show i + 1 < L by omega) (by omega)) ?_
  show ar Pg _ _ _ 402 [some (.ref am_x0), some (.ref 0), some (.ref 56), some (.int (nI i))] [.int (xs (nI (i + 1)).toNatClampNeg), .ref 56, .int ((listF S (xs (i + 1)) (xs (i + 2))).1)] _ _
  rw [nI_clamp (show i + 1 < 2 ^ 31 by omega)]
  refine ar_go M_L_law 4 _ 406 _ [some (.ref am_x0), some (.ref 0), some (.ref 56), some (.int (nI i))] _ [.int (nI i + nI 2), .ref am_x0, .int (xs (i + 1)), .ref 56, .int ((listF S (xs (i + 1)) (xs (i + 2))).1)] rfl ?_
  refine ar_top (w := .int (nI (i + 2))) (congrArg Value.int (nI_add i 2)) ?_
  refine ar_xald (a := 0) M_L_law rfl (by decide) (vp_in_nI (N := L) (show i + 2 < L by omega) (by omega)) ?_
  show ar Pg _ _ _ 407 [some (.ref am_x0), some (.ref 0), some (.ref 56), some (.int (nI i))] [.int (xs (nI (i + 2)).toNatClampNeg), .int (xs (i + 1)), .ref 56, .int ((listF S (xs (i + 1)) (xs (i + 2))).1)] _ _
  rw [nI_clamp (show i + 2 < 2 ^ 31 by omega)]
  refine ar_CV M_L_law rfl rfl (Or.inl rfl) rfl rfl (Nat.le_of_ble_eq_true rfl) h5c M_M_list (Nat.le_of_ble_eq_true rfl) (c_M_list (am_xs L xs) 6 _ hM2 (xs (i + 1)) (xs (i + 2))) (fun r1 h3 hq => ?_)
  obtain ⟨rfl, hf3, hM3⟩ := hq
  refine ⟨hf3.1, ?_⟩
  show ar Pg _ _ _ 410 [some (.ref am_x0), some (.ref 0), some (.ref 56), some (.int (nI i))] [.int ((listF S (xs (i + 1)) (xs (i + 2))).1), .int ((listF S (xs (i + 1)) (xs (i + 2))).1)] _ _
  refine ar_icmp M_L_law rfl rfl (fun _ => ?_) (fun z => absurd rfl (of_decide_eq_false z))
  exact K _ _ (lwC_of hS2 hf2 hM3 hf3)
set_option maxRecDepth 100000 in
theorem lw_9 {L i : Nat} {xs : Nat → Int32} {h : am_H} {S : Sg} (hi : i + 4 ≤ L) (hL : L ≤ 2048) (hI : lwI h S) {Q : Option Value → am_H → Prop} (K : ∀ (h' : am_H) (S' : Sg), lwC h h' S' → ar Pg (am_xs L xs) 10 n_L_law 584 [some (.ref am_x0), some (.ref 0), some (.ref 56), some (.int (nI i))] [] h' Q) : ar Pg (am_xs L xs) 10 n_L_law 415 [some (.ref am_x0), some (.ref 0), some (.ref 56), some (.int (nI i))] [] h Q := by
  obtain ⟨fs0, h0c⟩ := hI.1.o
  refine ar_go M_L_law 5 _ 420 _ [some (.ref am_x0), some (.ref 0), some (.ref 56), some (.int (nI i))] _ [.int (nI i + nI 1), .ref am_x0, .ref 0] rfl ?_
  refine ar_top (w := .int (nI (i + 1))) (congrArg Value.int (nI_add i 1)) ?_
  refine ar_xald (a := 0) M_L_law rfl (by decide) (vp_in_nI (N := L) (show i + 1 < L by omega) (by omega)) ?_
  show ar Pg _ _ _ 421 [some (.ref am_x0), some (.ref 0), some (.ref 56), some (.int (nI i))] [.int (xs (nI (i + 1)).toNatClampNeg), .ref 0] _ _
  rw [nI_clamp (show i + 1 < 2 ^ 31 by omega)]
  refine ar_go M_L_law 4 _ 425 _ [some (.ref am_x0), some (.ref 0), some (.ref 56), some (.int (nI i))] _ [.int (nI i + nI 2), .ref am_x0, .int (xs (i + 1)), .ref 0] rfl ?_
  refine ar_top (w := .int (nI (i + 2))) (congrArg Value.int (nI_add i 2)) ?_
  refine ar_xald (a := 0) M_L_law rfl (by decide) (vp_in_nI (N := L) (show i + 2 < L by omega) (by omega)) ?_
  show ar Pg _ _ _ 426 [some (.ref am_x0), some (.ref 0), some (.ref 56), some (.int (nI i))] [.int (xs (nI (i + 2)).toNatClampNeg), .int (xs (i + 1)), .ref 0] _ _
  rw [nI_clamp (show i + 2 < 2 ^ 31 by omega)]
  refine ar_go M_L_law 4 _ 430 _ [some (.ref am_x0), some (.ref 0), some (.ref 56), some (.int (nI i))] _ [.int (nI i + nI 3), .ref am_x0, .int (xs (i + 2)), .int (xs (i + 1)), .ref 0] rfl ?_
  refine ar_top (w := .int (nI (i + 3))) (congrArg Value.int (nI_add i 3)) ?_
  refine ar_xald (a := 0) M_L_law rfl (by decide) (vp_in_nI (N := L) (show i + 3 < L by omega) (by omega)) ?_
  show ar Pg _ _ _ 431 [some (.ref am_x0), some (.ref 0), some (.ref 56), some (.int (nI i))] [.int (xs (nI (i + 3)).toNatClampNeg), .int (xs (i + 2)), .int (xs (i + 1)), .ref 0] _ _
  rw [nI_clamp (show i + 3 < 2 ^ 31 by omega)]
  refine ar_CV M_L_law rfl rfl (Or.inl rfl) rfl rfl (Nat.le_of_ble_eq_true rfl) h0c M_B_settle (Nat.le_of_ble_eq_true rfl) (c_B_settle oO clOk_oO eu_lawp (am_xs L xs) 3 _ hI.1 (xs (i + 1)) (xs (i + 2)) (xs (i + 3))) (fun r1 h2 hq => ?_)
  obtain ⟨rfl, hS2, hf2⟩ := hq
  refine ⟨hf2.1, ?_⟩
  show ar Pg _ _ _ 434 [some (.ref am_x0), some (.ref 0), some (.ref 56), some (.int (nI i))] [.int ((setF oO S (xs (i + 1)) (xs (i + 2)) (xs (i + 3))).1)] _ _
  have hM2 := hI.2.1.mv hf2 (fun k hk => cl_56 hk)
  obtain ⟨fs5, h5c⟩ := hM2.o
  refine ar_go M_L_law 5 _ 439 _ [some (.ref am_x0), some (.ref 0), some (.ref 56), some (.int (nI i))] _ [.int (nI i + nI 1), .ref am_x0, .ref 56, .int ((setF oO S (xs (i + 1)) (xs (i + 2)) (xs (i + 3))).1)] rfl ?_
  refine ar_top (w := .int (nI (i + 1))) (congrArg Value.int (nI_add i 1)) ?_
  refine ar_xald (a := 0) M_L_law rfl (by decide) (vp_in_nI (N := L) (show i + 1 < L by omega) (by omega)) ?_
  show ar Pg _ _ _ 440 [some (.ref am_x0), some (.ref 0), some (.ref 56), some (.int (nI i))] [.int (xs (nI (i + 1)).toNatClampNeg), .ref 56, .int ((setF oO S (xs (i + 1)) (xs (i + 2)) (xs (i + 3))).1)] _ _
  rw [nI_clamp (show i + 1 < 2 ^ 31 by omega)]
  refine ar_go M_L_law 4 _ 444 _ [some (.ref am_x0), some (.ref 0), some (.ref 56), some (.int (nI i))] _ [.int (nI i + nI 2), .ref am_x0, .int (xs (i + 1)), .ref 56, .int ((setF oO S (xs (i + 1)) (xs (i + 2)) (xs (i + 3))).1)] rfl ?_
  refine ar_top (w := .int (nI (i + 2))) (congrArg Value.int (nI_add i 2)) ?_
  refine ar_xald (a := 0) M_L_law rfl (by decide) (vp_in_nI (N := L) (show i + 2 < L by omega) (by omega)) ?_
  show ar Pg _ _ _ 445 [some (.ref am_x0), some (.ref 0), some (.ref 56), some (.int (nI i))] [.int (xs (nI (i + 2)).toNatClampNeg), .int (xs (i + 1)), .ref 56, .int ((setF oO S (xs (i + 1)) (xs (i + 2)) (xs (i + 3))).1)] _ _
  rw [nI_clamp (show i + 2 < 2 ^ 31 by omega)]
  refine ar_go M_L_law 4 _ 449 _ [some (.ref am_x0), some (.ref 0), some (.ref 56), some (.int (nI i))] _ [.int (nI i + nI 3), .ref am_x0, .int (xs (i + 2)), .int (xs (i + 1)), .ref 56, .int ((setF oO S (xs (i + 1)) (xs (i + 2)) (xs (i + 3))).1)] rfl ?_
  refine ar_top (w := .int (nI (i + 3))) (congrArg Value.int (nI_add i 3)) ?_
  refine ar_xald (a := 0) M_L_law rfl (by decide) (vp_in_nI (N := L) (show i + 3 < L by omega) (by omega)) ?_
  show ar Pg _ _ _ 450 [some (.ref am_x0), some (.ref 0), some (.ref 56), some (.int (nI i))] [.int (xs (nI (i + 3)).toNatClampNeg), .int (xs (i + 2)), .int (xs (i + 1)), .ref 56, .int ((setF oO S (xs (i + 1)) (xs (i + 2)) (xs (i + 3))).1)] _ _
  rw [nI_clamp (show i + 3 < 2 ^ 31 by omega)]
  refine ar_CV M_L_law rfl rfl (Or.inl rfl) rfl rfl (Nat.le_of_ble_eq_true rfl) h5c M_M_settle (Nat.le_of_ble_eq_true rfl) (c_M_settle (am_xs L xs) 2 _ hM2 (xs (i + 1)) (xs (i + 2)) (xs (i + 3))) (fun r1 h3 hq => ?_)
  obtain ⟨rfl, hf3, hM3⟩ := hq
  refine ⟨hf3.1, ?_⟩
  show ar Pg _ _ _ 453 [some (.ref am_x0), some (.ref 0), some (.ref 56), some (.int (nI i))] [.int ((setF oO S (xs (i + 1)) (xs (i + 2)) (xs (i + 3))).1), .int ((setF oO S (xs (i + 1)) (xs (i + 2)) (xs (i + 3))).1)] _ _
  refine ar_icmp M_L_law rfl rfl (fun _ => ?_) (fun z => absurd rfl (of_decide_eq_false z))
  exact K _ _ (lwC_of hS2 hf2 hM3 hf3)
set_option maxRecDepth 100000 in
theorem lw_10 {L i : Nat} {xs : Nat → Int32} {h : am_H} {S : Sg} (hi : i + 4 ≤ L) (hL : L ≤ 2048) (hI : lwI h S) {Q : Option Value → am_H → Prop} (K : ∀ (h' : am_H) (S' : Sg), lwC h h' S' → ar Pg (am_xs L xs) 10 n_L_law 584 [some (.ref am_x0), some (.ref 0), some (.ref 56), some (.int (nI i))] [] h' Q) : ar Pg (am_xs L xs) 10 n_L_law 458 [some (.ref am_x0), some (.ref 0), some (.ref 56), some (.int (nI i))] [] h Q := by
  obtain ⟨fs0, h0c⟩ := hI.1.o
  refine ar_go M_L_law 5 _ 463 _ [some (.ref am_x0), some (.ref 0), some (.ref 56), some (.int (nI i))] _ [.int (nI i + nI 1), .ref am_x0, .ref 0] rfl ?_
  refine ar_top (w := .int (nI (i + 1))) (congrArg Value.int (nI_add i 1)) ?_
  refine ar_xald (a := 0) M_L_law rfl (by decide) (vp_in_nI (N := L) (show i + 1 < L by omega) (by omega)) ?_
  show ar Pg _ _ _ 464 [some (.ref am_x0), some (.ref 0), some (.ref 56), some (.int (nI i))] [.int (xs (nI (i + 1)).toNatClampNeg), .ref 0] _ _
  rw [nI_clamp (show i + 1 < 2 ^ 31 by omega)]
  refine ar_CV M_L_law rfl rfl (Or.inl rfl) rfl rfl (Nat.le_of_ble_eq_true rfl) h0c M_B_spread (Nat.le_of_ble_eq_true rfl) (c_B_spread oO clOk_oO eu_lawp (am_xs L xs) rfl rfl 3 _ hI.1 (xs (i + 1))) (fun r1 h2 hq => ?_)
  obtain ⟨rfl, hS2, hf2⟩ := hq
  refine ⟨hf2.1, ?_⟩
  show ar Pg _ _ _ 467 [some (.ref am_x0), some (.ref 0), some (.ref 56), some (.int (nI i))] [.int ((sprF oO S (xs (i + 1))).1)] _ _
  have hM2 := hI.2.1.mv hf2 (fun k hk => cl_56 hk)
  obtain ⟨fs5, h5c⟩ := hM2.o
  refine ar_go M_L_law 5 _ 472 _ [some (.ref am_x0), some (.ref 0), some (.ref 56), some (.int (nI i))] _ [.int (nI i + nI 1), .ref am_x0, .ref 56, .int ((sprF oO S (xs (i + 1))).1)] rfl ?_
  refine ar_top (w := .int (nI (i + 1))) (congrArg Value.int (nI_add i 1)) ?_
  refine ar_xald (a := 0) M_L_law rfl (by decide) (vp_in_nI (N := L) (show i + 1 < L by omega) (by omega)) ?_
  show ar Pg _ _ _ 473 [some (.ref am_x0), some (.ref 0), some (.ref 56), some (.int (nI i))] [.int (xs (nI (i + 1)).toNatClampNeg), .ref 56, .int ((sprF oO S (xs (i + 1))).1)] _ _
  rw [nI_clamp (show i + 1 < 2 ^ 31 by omega)]
  refine ar_CV M_L_law rfl rfl (Or.inl rfl) rfl rfl (Nat.le_of_ble_eq_true rfl) h5c M_M_spread (Nat.le_of_ble_eq_true rfl) (c_M_spread (am_xs L xs) 2 _ hM2 (xs (i + 1))) (fun r1 h3 hq => ?_)
  obtain ⟨rfl, hf3, hM3⟩ := hq
  refine ⟨hf3.1, ?_⟩
  show ar Pg _ _ _ 476 [some (.ref am_x0), some (.ref 0), some (.ref 56), some (.int (nI i))] [.int ((sprF oO S (xs (i + 1))).1), .int ((sprF oO S (xs (i + 1))).1)] _ _
  refine ar_icmp M_L_law rfl rfl (fun _ => ?_) (fun z => absurd rfl (of_decide_eq_false z))
  exact K _ _ (lwC_of hS2 hf2 hM3 hf3)
set_option maxRecDepth 100000 in
theorem lw_11 {L i : Nat} {xs : Nat → Int32} {h : am_H} {S : Sg} (hi : i + 4 ≤ L) (hL : L ≤ 2048) (hI : lwI h S) {Q : Option Value → am_H → Prop} (K : ∀ (h' : am_H) (S' : Sg), lwC h h' S' → ar Pg (am_xs L xs) 10 n_L_law 584 [some (.ref am_x0), some (.ref 0), some (.ref 56), some (.int (nI i))] [] h' Q) : ar Pg (am_xs L xs) 10 n_L_law 481 [some (.ref am_x0), some (.ref 0), some (.ref 56), some (.int (nI i))] [] h Q := by
  obtain ⟨fs0, h0c⟩ := hI.1.o
  refine ar_go M_L_law 5 _ 486 _ [some (.ref am_x0), some (.ref 0), some (.ref 56), some (.int (nI i))] _ [.int (nI i + nI 1), .ref am_x0, .ref 0] rfl ?_
  refine ar_top (w := .int (nI (i + 1))) (congrArg Value.int (nI_add i 1)) ?_
  refine ar_xald (a := 0) M_L_law rfl (by decide) (vp_in_nI (N := L) (show i + 1 < L by omega) (by omega)) ?_
  show ar Pg _ _ _ 487 [some (.ref am_x0), some (.ref 0), some (.ref 56), some (.int (nI i))] [.int (xs (nI (i + 1)).toNatClampNeg), .ref 0] _ _
  rw [nI_clamp (show i + 1 < 2 ^ 31 by omega)]
  refine ar_go M_L_law 4 _ 491 _ [some (.ref am_x0), some (.ref 0), some (.ref 56), some (.int (nI i))] _ [.int (nI i + nI 2), .ref am_x0, .int (xs (i + 1)), .ref 0] rfl ?_
  refine ar_top (w := .int (nI (i + 2))) (congrArg Value.int (nI_add i 2)) ?_
  refine ar_xald (a := 0) M_L_law rfl (by decide) (vp_in_nI (N := L) (show i + 2 < L by omega) (by omega)) ?_
  show ar Pg _ _ _ 492 [some (.ref am_x0), some (.ref 0), some (.ref 56), some (.int (nI i))] [.int (xs (nI (i + 2)).toNatClampNeg), .int (xs (i + 1)), .ref 0] _ _
  rw [nI_clamp (show i + 2 < 2 ^ 31 by omega)]
  refine ar_CV M_L_law rfl rfl (Or.inl rfl) rfl rfl (Nat.le_of_ble_eq_true rfl) h0c M_B_difference (Nat.le_of_ble_eq_true rfl) (c_B_difference (am_xs L xs) 7 _ hI.1 (xs (i + 1)) (xs (i + 2))) (fun r1 h2 hq => ?_)
  obtain ⟨rfl, rfl⟩ := hq
  refine ⟨rfl, ?_⟩
  show ar Pg _ _ _ 495 [some (.ref am_x0), some (.ref 0), some (.ref 56), some (.int (nI i))] [.int (dfR S.1 (xs (i + 1)) (xs (i + 2)))] _ _
  obtain ⟨fs5, h5c⟩ := hI.2.1.o
  have hMS := hI.2.1
  obtain ⟨⟨pr, uD, lD, nd, tn, m56⟩, mB, ⟨T, mT⟩, mw, mp⟩ := hMS
  refine ar_go M_L_law 5 _ 500 _ [some (.ref am_x0), some (.ref 0), some (.ref 56), some (.int (nI i))] _ [.int (nI i + nI 1), .ref am_x0, .ref 56, .int (dfR S.1 (xs (i + 1)) (xs (i + 2)))] rfl ?_
  refine ar_top (w := .int (nI (i + 1))) (congrArg Value.int (nI_add i 1)) ?_
  refine ar_xald (a := 0) M_L_law rfl (by decide) (vp_in_nI (N := L) (show i + 1 < L by omega) (by omega)) ?_
  show ar Pg _ _ _ 501 [some (.ref am_x0), some (.ref 0), some (.ref 56), some (.int (nI i))] [.int (xs (nI (i + 1)).toNatClampNeg), .ref 56, .int (dfR S.1 (xs (i + 1)) (xs (i + 2)))] _ _
  rw [nI_clamp (show i + 1 < 2 ^ 31 by omega)]
  refine ar_go M_L_law 4 _ 505 _ [some (.ref am_x0), some (.ref 0), some (.ref 56), some (.int (nI i))] _ [.int (nI i + nI 2), .ref am_x0, .int (xs (i + 1)), .ref 56, .int (dfR S.1 (xs (i + 1)) (xs (i + 2)))] rfl ?_
  refine ar_top (w := .int (nI (i + 2))) (congrArg Value.int (nI_add i 2)) ?_
  refine ar_xald (a := 0) M_L_law rfl (by decide) (vp_in_nI (N := L) (show i + 2 < L by omega) (by omega)) ?_
  show ar Pg _ _ _ 506 [some (.ref am_x0), some (.ref 0), some (.ref 56), some (.int (nI i))] [.int (xs (nI (i + 2)).toNatClampNeg), .int (xs (i + 1)), .ref 56, .int (dfR S.1 (xs (i + 1)) (xs (i + 2)))] _ _
  rw [nI_clamp (show i + 2 < 2 ^ 31 by omega)]
  refine ar_CV M_L_law rfl rfl (Or.inl rfl) rfl rfl (Nat.le_of_ble_eq_true rfl) h5c M_M_difference (Nat.le_of_ble_eq_true rfl) (c_M_diff2 (am_xs L xs) 7 _ m56 mB (xs (i + 1)) (xs (i + 2))) (fun r1 h3 hq => ?_)
  obtain ⟨rfl, rfl⟩ := hq
  refine ⟨rfl, ?_⟩
  show ar Pg _ _ _ 509 [some (.ref am_x0), some (.ref 0), some (.ref 56), some (.int (nI i))] [.int (dfR S.1 (xs (i + 1)) (xs (i + 2))), .int (dfR S.1 (xs (i + 1)) (xs (i + 2)))] _ _
  refine ar_icmp M_L_law rfl rfl (fun _ => ?_) (fun z => absurd rfl (of_decide_eq_false z))
  exact K _ S ⟨hI.1, hI.2.1, fr.rf _ _⟩
set_option maxRecDepth 100000 in
theorem lw_12 {L i : Nat} {xs : Nat → Int32} {h : am_H} {S : Sg} (hi : i + 4 ≤ L) (hL : L ≤ 2048) (hI : lwI h S) {Q : Option Value → am_H → Prop} (K : ∀ (h' : am_H) (S' : Sg), lwC h h' S' → ar Pg (am_xs L xs) 10 n_L_law 584 [some (.ref am_x0), some (.ref 0), some (.ref 56), some (.int (nI i))] [] h' Q) : ar Pg (am_xs L xs) 10 n_L_law 514 [some (.ref am_x0), some (.ref 0), some (.ref 56), some (.int (nI i))] [] h Q := by
  obtain ⟨fs0, h0c⟩ := hI.1.o
  refine ar_go M_L_law 1 _ 515 _ [some (.ref am_x0), some (.ref 0), some (.ref 56), some (.int (nI i))] _ [.ref 0] rfl ?_
  refine ar_CV M_L_law rfl rfl (Or.inl rfl) rfl rfl (Nat.le_of_ble_eq_true rfl) h0c M_B_sent (Nat.le_of_ble_eq_true rfl) (c_B_sent (am_xs L xs) 9 _ hI.1) (fun r1 h2 hq => ?_)
  obtain ⟨rfl, rfl⟩ := hq
  refine ⟨rfl, ?_⟩
  show ar Pg _ _ _ 518 [some (.ref am_x0), some (.ref 0), some (.ref 56), some (.int (nI i))] [.long S.2.1] _ _
  obtain ⟨fs5, h5c⟩ := hI.2.1.o
  have hMS := hI.2.1
  obtain ⟨⟨pr, uD, lD, nd, tn, m56⟩, mB, ⟨T, mT⟩, mw, mp⟩ := hMS
  refine ar_go M_L_law 1 _ 519 _ [some (.ref am_x0), some (.ref 0), some (.ref 56), some (.int (nI i))] _ [.ref 56, .long S.2.1] rfl ?_
  refine ar_CV M_L_law rfl rfl (Or.inl rfl) rfl rfl (Nat.le_of_ble_eq_true rfl) h5c M_M_sent (Nat.le_of_ble_eq_true rfl) (c_M_sent (am_xs L xs) 9 _ m56) (fun r1 h3 hq => ?_)
  obtain ⟨rfl, rfl⟩ := hq
  refine ⟨rfl, ?_⟩
  show ar Pg _ _ _ 522 [some (.ref am_x0), some (.ref 0), some (.ref 56), some (.int (nI i))] [.long S.2.1, .long S.2.1] _ _
  refine ar_go M_L_law 1 _ 523 _ [some (.ref am_x0), some (.ref 0), some (.ref 56), some (.int (nI i))] _ [.int (lg_cmp S.2.1 S.2.1)] rfl ?_
  refine ar_top (w := .int 0) (congrArg Value.int (lg_self _)) ?_
  refine ar_if M_L_law rfl rfl (fun _ => ?_) (fun z => absurd z (by decide))
  exact K _ S ⟨hI.1, hI.2.1, fr.rf _ _⟩
set_option maxRecDepth 100000 in
theorem lw_13 {L i : Nat} {xs : Nat → Int32} {h : am_H} {S : Sg} (hi : i + 4 ≤ L) (hL : L ≤ 2048) (hI : lwI h S) {Q : Option Value → am_H → Prop} (K : ∀ (h' : am_H) (S' : Sg), lwC h h' S' → ar Pg (am_xs L xs) 10 n_L_law 584 [some (.ref am_x0), some (.ref 0), some (.ref 56), some (.int (nI i))] [] h' Q) : ar Pg (am_xs L xs) 10 n_L_law 528 [some (.ref am_x0), some (.ref 0), some (.ref 56), some (.int (nI i))] [] h Q := by
  obtain ⟨fs0, h0c⟩ := hI.1.o
  refine ar_go M_L_law 5 _ 533 _ [some (.ref am_x0), some (.ref 0), some (.ref 56), some (.int (nI i))] _ [.int (nI i + nI 1), .ref am_x0, .ref 0] rfl ?_
  refine ar_top (w := .int (nI (i + 1))) (congrArg Value.int (nI_add i 1)) ?_
  refine ar_xald (a := 0) M_L_law rfl (by decide) (vp_in_nI (N := L) (show i + 1 < L by omega) (by omega)) ?_
  show ar Pg _ _ _ 534 [some (.ref am_x0), some (.ref 0), some (.ref 56), some (.int (nI i))] [.int (xs (nI (i + 1)).toNatClampNeg), .ref 0] _ _
  rw [nI_clamp (show i + 1 < 2 ^ 31 by omega)]
  refine ar_CV M_L_law rfl rfl (Or.inl rfl) rfl rfl (Nat.le_of_ble_eq_true rfl) h0c M_B_degree (Nat.le_of_ble_eq_true rfl) (c_B_degree (am_xs L xs) 8 _ hI.1 (xs (i + 1))) (fun r1 h2 hq => ?_)
  obtain ⟨rfl, rfl⟩ := hq
  refine ⟨rfl, ?_⟩
  show ar Pg _ _ _ 537 [some (.ref am_x0), some (.ref 0), some (.ref 56), some (.int (nI i))] [.int (dgR S.2.2.1 S.2.2.2.2.1 (xs (i + 1)))] _ _
  obtain ⟨fs5, h5c⟩ := hI.2.1.o
  have hMS := hI.2.1
  obtain ⟨⟨pr, uD, lD, nd, tn, m56⟩, mB, ⟨T, mT⟩, mw, mp⟩ := hMS
  refine ar_go M_L_law 5 _ 542 _ [some (.ref am_x0), some (.ref 0), some (.ref 56), some (.int (nI i))] _ [.int (nI i + nI 1), .ref am_x0, .ref 56, .int (dgR S.2.2.1 S.2.2.2.2.1 (xs (i + 1)))] rfl ?_
  refine ar_top (w := .int (nI (i + 1))) (congrArg Value.int (nI_add i 1)) ?_
  refine ar_xald (a := 0) M_L_law rfl (by decide) (vp_in_nI (N := L) (show i + 1 < L by omega) (by omega)) ?_
  show ar Pg _ _ _ 543 [some (.ref am_x0), some (.ref 0), some (.ref 56), some (.int (nI i))] [.int (xs (nI (i + 1)).toNatClampNeg), .ref 56, .int (dgR S.2.2.1 S.2.2.2.2.1 (xs (i + 1)))] _ _
  rw [nI_clamp (show i + 1 < 2 ^ 31 by omega)]
  refine ar_CV M_L_law rfl rfl (Or.inl rfl) rfl rfl (Nat.le_of_ble_eq_true rfl) h5c M_M_degree (Nat.le_of_ble_eq_true rfl) (c_M_degree (am_xs L xs) 9 _ m56 (xs (i + 1))) (fun r1 h3 hq => ?_)
  obtain ⟨rfl, rfl⟩ := hq
  refine ⟨rfl, ?_⟩
  show ar Pg _ _ _ 546 [some (.ref am_x0), some (.ref 0), some (.ref 56), some (.int (nI i))] [.int (dgR S.2.2.1 S.2.2.2.2.1 (xs (i + 1))), .int (dgR S.2.2.1 S.2.2.2.2.1 (xs (i + 1)))] _ _
  refine ar_icmp M_L_law rfl rfl (fun _ => ?_) (fun z => absurd rfl (of_decide_eq_false z))
  exact K _ S ⟨hI.1, hI.2.1, fr.rf _ _⟩
set_option maxRecDepth 100000 in
theorem lw_14 {L i : Nat} {xs : Nat → Int32} {h : am_H} {S : Sg} (hi : i + 4 ≤ L) (hL : L ≤ 2048) (hI : lwI h S) {Q : Option Value → am_H → Prop} (K : ∀ (h' : am_H) (S' : Sg), lwC h h' S' → ar Pg (am_xs L xs) 10 n_L_law 584 [some (.ref am_x0), some (.ref 0), some (.ref 56), some (.int (nI i))] [] h' Q) : ar Pg (am_xs L xs) 10 n_L_law 551 [some (.ref am_x0), some (.ref 0), some (.ref 56), some (.int (nI i))] [] h Q := by
  obtain ⟨fs0, h0c⟩ := hI.1.o
  refine ar_go M_L_law 5 _ 556 _ [some (.ref am_x0), some (.ref 0), some (.ref 56), some (.int (nI i))] _ [.int (nI i + nI 1), .ref am_x0, .ref 0] rfl ?_
  refine ar_top (w := .int (nI (i + 1))) (congrArg Value.int (nI_add i 1)) ?_
  refine ar_xald (a := 0) M_L_law rfl (by decide) (vp_in_nI (N := L) (show i + 1 < L by omega) (by omega)) ?_
  show ar Pg _ _ _ 557 [some (.ref am_x0), some (.ref 0), some (.ref 56), some (.int (nI i))] [.int (xs (nI (i + 1)).toNatClampNeg), .ref 0] _ _
  rw [nI_clamp (show i + 1 < 2 ^ 31 by omega)]
  refine ar_go M_L_law 4 _ 561 _ [some (.ref am_x0), some (.ref 0), some (.ref 56), some (.int (nI i))] _ [.int (nI i + nI 2), .ref am_x0, .int (xs (i + 1)), .ref 0] rfl ?_
  refine ar_top (w := .int (nI (i + 2))) (congrArg Value.int (nI_add i 2)) ?_
  refine ar_xald (a := 0) M_L_law rfl (by decide) (vp_in_nI (N := L) (show i + 2 < L by omega) (by omega)) ?_
  show ar Pg _ _ _ 562 [some (.ref am_x0), some (.ref 0), some (.ref 56), some (.int (nI i))] [.int (xs (nI (i + 2)).toNatClampNeg), .int (xs (i + 1)), .ref 0] _ _
  rw [nI_clamp (show i + 2 < 2 ^ 31 by omega)]
  refine ar_CV M_L_law rfl rfl (Or.inl rfl) rfl rfl (Nat.le_of_ble_eq_true rfl) h0c M_B_factor (Nat.le_of_ble_eq_true rfl) (c_B_factor (am_xs L xs) 8 _ hI.1 (xs (i + 1)) (xs (i + 2))) (fun r1 h2 hq => ?_)
  obtain ⟨rfl, rfl⟩ := hq
  refine ⟨rfl, ?_⟩
  show ar Pg _ _ _ 565 [some (.ref am_x0), some (.ref 0), some (.ref 56), some (.int (nI i))] [.int (fcR S.2.2.1 S.2.2.2.1 S.2.2.2.2.1 S.2.2.2.2.2 (xs (i + 1)) (xs (i + 2)))] _ _
  obtain ⟨fs5, h5c⟩ := hI.2.1.o
  have hMS := hI.2.1
  obtain ⟨⟨pr, uD, lD, nd, tn, m56⟩, mB, ⟨T, mT⟩, mw, mp⟩ := hMS
  refine ar_go M_L_law 5 _ 570 _ [some (.ref am_x0), some (.ref 0), some (.ref 56), some (.int (nI i))] _ [.int (nI i + nI 1), .ref am_x0, .ref 56, .int (fcR S.2.2.1 S.2.2.2.1 S.2.2.2.2.1 S.2.2.2.2.2 (xs (i + 1)) (xs (i + 2)))] rfl ?_
  refine ar_top (w := .int (nI (i + 1))) (congrArg Value.int (nI_add i 1)) ?_
  refine ar_xald (a := 0) M_L_law rfl (by decide) (vp_in_nI (N := L) (show i + 1 < L by omega) (by omega)) ?_
  show ar Pg _ _ _ 571 [some (.ref am_x0), some (.ref 0), some (.ref 56), some (.int (nI i))] [.int (xs (nI (i + 1)).toNatClampNeg), .ref 56, .int (fcR S.2.2.1 S.2.2.2.1 S.2.2.2.2.1 S.2.2.2.2.2 (xs (i + 1)) (xs (i + 2)))] _ _
  rw [nI_clamp (show i + 1 < 2 ^ 31 by omega)]
  refine ar_go M_L_law 4 _ 575 _ [some (.ref am_x0), some (.ref 0), some (.ref 56), some (.int (nI i))] _ [.int (nI i + nI 2), .ref am_x0, .int (xs (i + 1)), .ref 56, .int (fcR S.2.2.1 S.2.2.2.1 S.2.2.2.2.1 S.2.2.2.2.2 (xs (i + 1)) (xs (i + 2)))] rfl ?_
  refine ar_top (w := .int (nI (i + 2))) (congrArg Value.int (nI_add i 2)) ?_
  refine ar_xald (a := 0) M_L_law rfl (by decide) (vp_in_nI (N := L) (show i + 2 < L by omega) (by omega)) ?_
  show ar Pg _ _ _ 576 [some (.ref am_x0), some (.ref 0), some (.ref 56), some (.int (nI i))] [.int (xs (nI (i + 2)).toNatClampNeg), .int (xs (i + 1)), .ref 56, .int (fcR S.2.2.1 S.2.2.2.1 S.2.2.2.2.1 S.2.2.2.2.2 (xs (i + 1)) (xs (i + 2)))] _ _
  rw [nI_clamp (show i + 2 < 2 ^ 31 by omega)]
  refine ar_CV M_L_law rfl rfl (Or.inl rfl) rfl rfl (Nat.le_of_ble_eq_true rfl) h5c M_M_factor (Nat.le_of_ble_eq_true rfl) (c_M_fac2 (am_xs L xs) _ m56 mp (xs (i + 1)) (xs (i + 2))) (fun r1 h3 hq => ?_)
  obtain ⟨rfl, rfl⟩ := hq
  refine ⟨rfl, ?_⟩
  show ar Pg _ _ _ 579 [some (.ref am_x0), some (.ref 0), some (.ref 56), some (.int (nI i))] [.int (fcR S.2.2.1 S.2.2.2.1 S.2.2.2.2.1 S.2.2.2.2.2 (xs (i + 1)) (xs (i + 2))), .int (fcR S.2.2.1 S.2.2.2.1 S.2.2.2.2.1 S.2.2.2.2.2 (xs (i + 1)) (xs (i + 2)))] _ _
  refine ar_icmp M_L_law rfl rfl (fun _ => ?_) (fun z => absurd rfl (of_decide_eq_false z))
  exact K _ S ⟨hI.1, hI.2.1, fr.rf _ _⟩
set_option maxRecDepth 100000 in
theorem lw_loop {L : Nat} {xs : Nat → Int32} (hL : L ≤ 2048) : ∀ (n i : Nat) (h : am_H) (S : Sg), L + 4 - i < n → i ≤ L + 4 → lwI h S → ar Pg (am_xs L xs) 10 n_L_law 18 [some (.ref am_x0), some (.ref 0), some (.ref 56), some (.int (nI i))] [] h (fun r h' => r = some (.int 1) ∧ fr alL am_h0 h') := by
  intro n
  induction n with
  | zero => intro i h S hn; omega
  | succ n ih =>
    intro i h S hn hiL hI
    refine ar_go M_L_law 2 _ 20 _ [some (.ref am_x0), some (.ref 0), some (.ref 56), some (.int (nI i))] _ [.ref am_x0, .int (nI i)] rfl ?_
    refine ar_xlen (a := 0) M_L_law rfl (by decide) ?_
    show ar Pg _ _ _ 21 [some (.ref am_x0), some (.ref 0), some (.ref 56), some (.int (nI i))] [.int (nI L), .int (nI i)] _ _
    refine ar_go M_L_law 2 _ 23 _ [some (.ref am_x0), some (.ref 0), some (.ref 56), some (.int (nI i))] _ [.int (nI L - nI 4), .int (nI i)] rfl ?_
    refine ar_icmp M_L_law rfl rfl (fun hc => ?_) (fun hc => ?_)
    · refine ar_go M_L_law 1 _ 591 _ [some (.ref am_x0), some (.ref 0), some (.ref 56), some (.int (nI i))] _ [.int 1] rfl ?_
      exact ar_zret M_L_law rfl rfl (Or.inr rfl) ⟨rfl, hI.2.2⟩
    rw [lw_gt (by omega) (by omega)] at hc
    have hc := of_decide_eq_false hc
    have hK : ∀ (h' : am_H) (S' : Sg), lwC h h' S' → ar Pg (am_xs L xs) 10 n_L_law 584 [some (.ref am_x0), some (.ref 0), some (.ref 56), some (.int (nI i))] [] h' (fun r h' => r = some (.int 1) ∧ fr alL am_h0 h') := by
      intro h' S' hC
      refine ar_go M_L_law 1 _ 587 _ [some (.ref am_x0), some (.ref 0), some (.ref 56), some (.int (nI i + Int32.ofInt 4))] _ [] rfl ?_
      rw [show nI i + Int32.ofInt 4 = nI (i + 4) from nI_add i 4]
      refine ar_go M_L_law 1 _ 18 _ [some (.ref am_x0), some (.ref 0), some (.ref 56), some (.int (nI (i + 4)))] _ [] rfl ?_
      exact ih (i + 4) h' S' (by omega) (by omega) (hI.go hC)
    refine ar_go M_L_law 2 _ 28 _ [some (.ref am_x0), some (.ref 0), some (.ref 56), some (.int (nI i))] _ [.int (nI i), .ref am_x0] rfl ?_
    refine ar_xald (a := 0) M_L_law rfl (by decide) (vp_in_nI (N := L) (show i < L by omega) (by omega)) ?_
    show ar Pg _ _ _ 29 [some (.ref am_x0), some (.ref 0), some (.ref 56), some (.int (nI i))] [.int (xs (nI i).toNatClampNeg)] _ _
    refine ar_go M_L_law 2 _ 32 _ [some (.ref am_x0), some (.ref 0), some (.ref 56), some (.int (nI i))] _ [.int (xs (nI i).toNatClampNeg &&& nI 15)] rfl ?_
    obtain ⟨k, hk, hke⟩ := pk_andE (xs (nI i).toNatClampNeg) (m := nI 15) 4 (by decide)
    rw [hke]
    clear hke
    have hk16 : k < 16 := hk
    clear hk
    match k, hk16 with
    | 0, _ => refine ar_go M_L_law 1 _ 108 _ [some (.ref am_x0), some (.ref 0), some (.ref 56), some (.int (nI i))] _ [] rfl ?_; exact lw_0 (by omega) hL hI hK
    | 1, _ => refine ar_go M_L_law 1 _ 151 _ [some (.ref am_x0), some (.ref 0), some (.ref 56), some (.int (nI i))] _ [] rfl ?_; exact lw_1 (by omega) hL hI hK
    | 2, _ => refine ar_go M_L_law 1 _ 184 _ [some (.ref am_x0), some (.ref 0), some (.ref 56), some (.int (nI i))] _ [] rfl ?_; exact lw_2 (by omega) hL hI hK
    | 3, _ => refine ar_go M_L_law 1 _ 217 _ [some (.ref am_x0), some (.ref 0), some (.ref 56), some (.int (nI i))] _ [] rfl ?_; exact lw_3 (by omega) hL hI hK
    | 4, _ => refine ar_go M_L_law 1 _ 250 _ [some (.ref am_x0), some (.ref 0), some (.ref 56), some (.int (nI i))] _ [] rfl ?_; exact lw_4 (by omega) hL hI hK
    | 5, _ => refine ar_go M_L_law 1 _ 273 _ [some (.ref am_x0), some (.ref 0), some (.ref 56), some (.int (nI i))] _ [] rfl ?_; exact lw_5 (by omega) hL hI hK
    | 6, _ => refine ar_go M_L_law 1 _ 306 _ [some (.ref am_x0), some (.ref 0), some (.ref 56), some (.int (nI i))] _ [] rfl ?_; exact lw_6 (by omega) hL hI hK
    | 7, _ => refine ar_go M_L_law 1 _ 339 _ [some (.ref am_x0), some (.ref 0), some (.ref 56), some (.int (nI i))] _ [] rfl ?_; exact lw_7 (by omega) hL hI hK
    | 8, _ => refine ar_go M_L_law 1 _ 382 _ [some (.ref am_x0), some (.ref 0), some (.ref 56), some (.int (nI i))] _ [] rfl ?_; exact lw_8 (by omega) hL hI hK
    | 9, _ => refine ar_go M_L_law 1 _ 415 _ [some (.ref am_x0), some (.ref 0), some (.ref 56), some (.int (nI i))] _ [] rfl ?_; exact lw_9 (by omega) hL hI hK
    | 10, _ => refine ar_go M_L_law 1 _ 458 _ [some (.ref am_x0), some (.ref 0), some (.ref 56), some (.int (nI i))] _ [] rfl ?_; exact lw_10 (by omega) hL hI hK
    | 11, _ => refine ar_go M_L_law 1 _ 481 _ [some (.ref am_x0), some (.ref 0), some (.ref 56), some (.int (nI i))] _ [] rfl ?_; exact lw_11 (by omega) hL hI hK
    | 12, _ => refine ar_go M_L_law 1 _ 514 _ [some (.ref am_x0), some (.ref 0), some (.ref 56), some (.int (nI i))] _ [] rfl ?_; exact lw_12 (by omega) hL hI hK
    | 13, _ => refine ar_go M_L_law 1 _ 528 _ [some (.ref am_x0), some (.ref 0), some (.ref 56), some (.int (nI i))] _ [] rfl ?_; exact lw_13 (by omega) hL hI hK
    | 14, _ => refine ar_go M_L_law 1 _ 551 _ [some (.ref am_x0), some (.ref 0), some (.ref 56), some (.int (nI i))] _ [] rfl ?_; exact lw_14 (by omega) hL hI hK
    | 15, _ => refine ar_go M_L_law 1 _ 584 _ [some (.ref am_x0), some (.ref 0), some (.ref 56), some (.int (nI i))] _ [] rfl ?_; exact hK h S ⟨hI.1, hI.2.1, fr.rf _ _⟩
    | k + 16, hk9 => exact absurd hk9 (by omega)
