/-! Polynomial: remainder, quotient -/
theorem c_Y_tr_loop (X : am_X) (d : Nat) (h : am_H) {y z : Nat} {C : Nat → Nat} (hys : y < 1000) (hC : lt17 C) : ∀ (j : Nat) (h1 : am_H), j ≤ 17 → isYO h1 y j → isLA h1 (y + 1) 17 C → fr [y, y + 1] h h1 → ar Pg X (d + 1) n_Y_becomeRemainder 22 [some (.ref y), some (.ref z)] [] h1 (fun rr h' => rr = none ∧ fr [y, y + 1] h h' ∧ isP h' y (trm C j) C) := by
  intro j
  induction j with
  | zero =>
    intro h1 hj hy ha hF
    refine ar_go M_Y_becomeRemainder 1 _ 23 _ [some (.ref y), some (.ref z)] _ [.ref y] rfl ?_
    refine ar_get M_Y_becomeRemainder rfl rfl hy rfl ?_
    refine ar_if M_Y_becomeRemainder rfl rfl (fun _ => ?_) (fun z => absurd z (by decide))
    exact ar_R M_Y_becomeRemainder rfl rfl rfl rfl ⟨rfl, hF, by simp [trm], hy, ha, hC⟩
  | succ j ih =>
    intro h1 hj hy ha hF
    unfold isYO at hy
    unfold isLA at ha
    have hy : h1[y]? = some (.inr (2, [.ref (y + 1), .int (nI j)])) := hy
    refine ar_go M_Y_becomeRemainder 1 _ 23 _ [some (.ref y), some (.ref z)] _ [.ref y] rfl ?_
    refine ar_get M_Y_becomeRemainder rfl rfl hy rfl ?_
    refine ar_if M_Y_becomeRemainder rfl rfl (fun hc => absurd (of_decide_eq_true hc) (nI_pos (by omega))) (fun _ => ?_)
    refine ar_go M_Y_becomeRemainder 1 _ 30 _ [some (.ref y), some (.ref z)] _ [.ref y] rfl ?_
    refine ar_get M_Y_becomeRemainder rfl rfl hy rfl ?_
    refine ar_go M_Y_becomeRemainder 1 _ 34 _ [some (.ref y), some (.ref z)] _ [.ref y, .ref (y + 1)] rfl ?_
    refine ar_get M_Y_becomeRemainder rfl rfl hy rfl ?_
    refine ar_lald M_Y_becomeRemainder rfl ha (vp_in_nI (by omega) (by decide)) ?_
    rw [nI_clamp (n := j) (by omega)]
    refine ar_go M_Y_becomeRemainder 1 _ 39 _ [some (.ref y), some (.ref z)] _ [.long (lN 0), .long (lN (C j))] rfl ?_
    have hcj := hC j (by omega)
    refine ar_go M_Y_becomeRemainder 1 _ 40 _ [some (.ref y), some (.ref z)] _ [.int (lg_cmp (lN (C j)) (lN 0))] rfl ?_
    refine ar_top (w := .int (if C j = 0 then 0 else 1)) (congrArg Value.int (lcmp0 hcj)) ?_
    by_cases h0 : C j = 0
    · rw [if_pos h0]
      refine ar_if M_Y_becomeRemainder rfl rfl (fun z => absurd z (by decide)) (fun _ => ?_)
      refine ar_go M_Y_becomeRemainder 2 _ 45 _ [some (.ref y), some (.ref z)] _ [.ref y, .ref y] rfl ?_
      refine ar_get M_Y_becomeRemainder rfl rfl hy rfl ?_
      refine ar_go M_Y_becomeRemainder 2 _ 50 _ [some (.ref y), some (.ref z)] _ [.int (nI j - nI 1), .ref y] rfl ?_
      refine ar_top (w := .int (dI j)) (congrArg Value.int (dI_1 j)) ?_
      refine ar_put M_Y_becomeRemainder rfl rfl hy (Nat.le_of_ble_eq_true rfl) rfl (Nat.le_of_ble_eq_true rfl) (fun h2 hf he => ?_)
      have ha := hf.at ha (by simp only [List.mem_cons, List.not_mem_nil, or_false]; omega)
      have hy : h2[y]? = some (.inr (2, [.ref (y + 1), .int (dI j)])) := he
      refine ar_go M_Y_becomeRemainder 1 _ 22 _ [some (.ref y), some (.ref z)] _ [] rfl ?_
      rw [trm, if_pos h0]
      exact ih h2 (by omega) hy ha (hF.tr hf (by simp) (by simp))
    · rw [if_neg h0]
      refine ar_if M_Y_becomeRemainder rfl rfl (fun _ => ?_) (fun z => absurd z (by decide))
      rw [trm, if_neg h0]
      exact ar_R M_Y_becomeRemainder rfl rfl rfl rfl (⟨rfl, hF, hj, hy, ha, hC⟩)
theorem c_Y_becomeRemainder (X : am_X) (d : Nat) (h : am_H) {y z k q : Nat} {A B : Nat → Nat} (hP : isP h y k A) (hP2 : isP h z (q + 1) B) (hys : y < 1000) (hzs : z < 1000) (hap : z + 2 ≤ y ∨ y + 2 ≤ z) : ar Pg X (d + 1 + 1) n_Y_becomeRemainder 0 [some (.ref y), some (.ref z)] [] h (fun rr h' => rr = none ∧ fr [y, y + 1] h h' ∧ isP h' y (trm (dv B q (k - q) A) (min k q)) (dv B q (k - q) A)) := by
  have hP0 := hP
  have hP20 := hP2
  obtain ⟨hk, hy, ha, hA⟩ := hP
  obtain ⟨hq, hy2, ha2, hB⟩ := hP2
  unfold isYO at hy hy2
  unfold isLA at ha ha2
  have hy2 : h[z]? = some (.inr (2, [.ref (z + 1), .int (nI q)])) := hy2
  refine ar_go M_Y_becomeRemainder 2 _ 2 _ [some (.ref y), some (.ref z)] _ [.ref z, .ref y] rfl ?_
  refine ar_CV M_Y_becomeRemainder rfl rfl (Or.inl rfl) rfl rfl (Nat.le_of_ble_eq_true rfl) hy M_Y_divideInPlace (Nat.le_of_ble_eq_true rfl) (c_Y_divideInPlace X d _ hP0 hP20 hys hzs hap) (fun r1 h2 hq => ?_)
  obtain ⟨rfl, hf, hP3⟩ := hq
  refine ⟨hf.1, ?_⟩
  have hy2 := hf.at hy2 (by simp; omega)
  clear hy ha
  obtain ⟨-, hy, ha, hC⟩ := hP3
  unfold isYO at hy
  unfold isLA at ha
  have k1 := hf
  show ar Pg _ _ _ 5 [some (.ref y), some (.ref z)] [] _ _
  refine ar_go M_Y_becomeRemainder 2 _ 7 _ [some (.ref y), some (.ref z)] _ [.ref y, .ref y] rfl ?_
  refine ar_get M_Y_becomeRemainder rfl rfl hy rfl ?_
  refine ar_go M_Y_becomeRemainder 1 _ 11 _ [some (.ref y), some (.ref z)] _ [.ref z, .int (dI k), .ref y] rfl ?_
  refine ar_get M_Y_becomeRemainder rfl rfl hy2 rfl ?_
  refine ar_go M_Y_becomeRemainder 2 _ 16 _ [some (.ref y), some (.ref z)] _ [.int (nI q - nI 1), .int (dI k), .ref y] rfl ?_
  refine ar_top (w := .int (dI q)) (congrArg Value.int (dI_1 q)) ?_
  refine ar_mmin M_Y_becomeRemainder rfl rfl (Nat.succ_pos _) (Nat.le_of_ble_eq_true rfl) (dI_min k (by omega) q (by omega)) ?_
  refine ar_put M_Y_becomeRemainder rfl rfl hy (Nat.le_of_ble_eq_true rfl) rfl (Nat.le_of_ble_eq_true rfl) (fun h3 hf he => ?_)
  have ha := hf.at ha (by simp only [List.mem_cons, List.not_mem_nil, or_false]; omega)
  have hy2 := hf.at hy2 (by simp only [List.mem_cons, List.not_mem_nil, or_false]; omega)
  have hy : h3[y]? = some (.inr (2, [.ref (y + 1), .int (dI (min k q))])) := he
  exact c_Y_tr_loop X (d + 1) h hys hC (min k q) h3 (by omega) hy ha (k1.tr hf (by simp) (by simp))
theorem c_Y_qu_loop (X : am_X) (d : Nat) (h : am_H) {y z n q : Nat} {C : Nat → Nat} (hys : y < 1000) (hzs : z < 1000) (hap : z + 2 ≤ y ∨ y + 2 ≤ z) (hnq : n + 1 + q ≤ 17) (hC : lt17 C) : ∀ (k i : Nat) (h1 : am_H), n + 1 - i < k → i ≤ n + 1 → isYO h1 y (n + 1) → isLA h1 (y + 1) 17 (shd C q i) → isYO h1 z (q + 1) → fr [y, y + 1] h h1 → ar Pg X (d + 1) n_Y_becomeQuotient 20 [some (.ref y), some (.ref z), some (.int (nI i))] [] h1 (fun rr h' => rr = none ∧ fr [y, y + 1] h h' ∧ isP h' y (n + 1) (shd C q (n + 1))) := by
  intro k
  induction k with
  | zero => intro i h1 hk; omega
  | succ k ih =>
    intro i h1 hk hin hy ha hy2 hF
    unfold isYO at hy hy2
    unfold isLA at ha
    have hy : h1[y]? = some (.inr (2, [.ref (y + 1), .int (nI n)])) := hy
    have hy2 : h1[z]? = some (.inr (2, [.ref (z + 1), .int (nI q)])) := hy2
    refine ar_go M_Y_becomeQuotient 2 _ 22 _ [some (.ref y), some (.ref z), some (.int (nI i))] _ [.ref y, .int (nI i)] rfl ?_
    refine ar_get M_Y_becomeQuotient rfl rfl hy rfl ?_
    refine ar_icmp M_Y_becomeQuotient rfl rfl (fun hc => ?_) (fun hc => ?_)
    · have hc := c2_gt_t (a := i) (b := n) (by omega) (by omega) hc
      have hi2 : i = n + 1 := by omega
      rw [hi2] at ha
      exact ar_R M_Y_becomeQuotient rfl rfl rfl rfl (⟨rfl, hF, by omega, hy, ha, shd_17 hC q _ (by omega)⟩)
    · have hc := c2_gt_f (a := i) (b := n) (by omega) (by omega) hc
      refine ar_go M_Y_becomeQuotient 1 _ 29 _ [some (.ref y), some (.ref z), some (.int (nI i))] _ [.ref y] rfl ?_
      refine ar_get M_Y_becomeQuotient rfl rfl hy rfl ?_
      refine ar_go M_Y_becomeQuotient 2 _ 34 _ [some (.ref y), some (.ref z), some (.int (nI i))] _ [.ref y, .int (nI i), .ref (y + 1)] rfl ?_
      refine ar_get M_Y_becomeQuotient rfl rfl hy rfl ?_
      refine ar_go M_Y_becomeQuotient 2 _ 39 _ [some (.ref y), some (.ref z), some (.int (nI i))] _ [.ref z, .int (nI i), .ref (y + 1), .int (nI i), .ref (y + 1)] rfl ?_
      refine ar_get M_Y_becomeQuotient rfl rfl hy2 rfl ?_
      refine ar_go M_Y_becomeQuotient 1 _ 43 _ [some (.ref y), some (.ref z), some (.int (nI i))] _ [.int (nI i + nI q), .ref (y + 1), .int (nI i), .ref (y + 1)] rfl ?_
      refine ar_top (w := .int (nI (i + q))) (congrArg Value.int (nI_add i q)) ?_
      refine ar_lald M_Y_becomeQuotient rfl ha (vp_in_nI (by omega) (by decide)) ?_
      rw [nI_clamp (n := (i + q)) (by omega)]
      refine ar_last M_Y_becomeQuotient rfl ha (vp_in_nI (by omega) (by decide)) (fun h2 hf he => ?_)
      rw [nI_clamp (n := i) (by omega)] at he
      rw [updL_lN] at he
      have hy := hf.at hy (by simp only [List.mem_cons, List.not_mem_nil, or_false]; omega)
      have hy2 := hf.at hy2 (by simp only [List.mem_cons, List.not_mem_nil, or_false]; omega)
      have ha : h2[(y + 1)]? = some (.inl (1, 17, .inr (.inl (fun z9 => lN ((updN (shd C q i) i ((shd C q i) (i + q))) z9))))) := he
      refine ar_go M_Y_becomeQuotient 1 _ 48 _ [some (.ref y), some (.ref z), some (.int (nI i + Int32.ofInt 1))] _ [] rfl ?_
      rw [show nI i + Int32.ofInt 1 = nI (i + 1) from nI_add i 1]
      refine ar_go M_Y_becomeQuotient 1 _ 20 _ [some (.ref y), some (.ref z), some (.int (nI (i + 1)))] _ [] rfl ?_
      exact ih (i + 1) h2 (by omega) (by omega) hy ha hy2 (hF.tr hf (by simp) (by simp))
theorem c_Y_becomeQuotient (X : am_X) (d : Nat) (h : am_H) {y z k q : Nat} {A B : Nat → Nat} (hP : isP h y (k + 1) A) (hP2 : isP h z (q + 1) B) (hys : y < 1000) (hzs : z < 1000) (hap : z + 2 ≤ y ∨ y + 2 ≤ z) (hqk : q ≤ k) : ar Pg X (d + 1 + 1) n_Y_becomeQuotient 0 [some (.ref y), some (.ref z), none] [] h (fun rr h' => rr = none ∧ fr [y, y + 1] h h' ∧ isP h' y (k - q + 1) (shd (dv B q (k + 1 - q) A) q (k - q + 1))) := by
  have hP0 := hP
  have hP20 := hP2
  obtain ⟨hk, hy, ha, hA⟩ := hP
  obtain ⟨hq, hy2, ha2, hB⟩ := hP2
  unfold isYO at hy hy2
  unfold isLA at ha ha2
  have hy2 : h[z]? = some (.inr (2, [.ref (z + 1), .int (nI q)])) := hy2
  refine ar_go M_Y_becomeQuotient 2 _ 2 _ [some (.ref y), some (.ref z), none] _ [.ref z, .ref y] rfl ?_
  refine ar_CV M_Y_becomeQuotient rfl rfl (Or.inl rfl) rfl rfl (Nat.le_of_ble_eq_true rfl) hy M_Y_divideInPlace (Nat.le_of_ble_eq_true rfl) (c_Y_divideInPlace X d _ hP0 hP20 hys hzs hap) (fun r1 h2 hq => ?_)
  obtain ⟨rfl, hf, hP3⟩ := hq
  refine ⟨hf.1, ?_⟩
  have hy2 := hf.at hy2 (by simp; omega)
  clear hy ha
  obtain ⟨-, hy, ha, hC⟩ := hP3
  unfold isYO at hy
  unfold isLA at ha
  have k1 := hf
  show ar Pg _ _ _ 5 [some (.ref y), some (.ref z), none] [] _ _
  refine ar_go M_Y_becomeQuotient 2 _ 7 _ [some (.ref y), some (.ref z), none] _ [.ref y, .ref y] rfl ?_
  refine ar_get M_Y_becomeQuotient rfl rfl hy rfl ?_
  refine ar_go M_Y_becomeQuotient 1 _ 11 _ [some (.ref y), some (.ref z), none] _ [.ref z, .int (dI (k + 1)), .ref y] rfl ?_
  refine ar_get M_Y_becomeQuotient rfl rfl hy2 rfl ?_
  refine ar_go M_Y_becomeQuotient 1 _ 15 _ [some (.ref y), some (.ref z), none] _ [.int ((dI (k + 1)) - nI q), .ref y] rfl ?_
  refine ar_top (w := .int (nI (k - q))) (congrArg Value.int (dI_sub hqk)) ?_
  refine ar_put M_Y_becomeQuotient rfl rfl hy (Nat.le_of_ble_eq_true rfl) rfl (Nat.le_of_ble_eq_true rfl) (fun h3 hf he => ?_)
  have ha := hf.at ha (by simp only [List.mem_cons, List.not_mem_nil, or_false]; omega)
  have hy2 := hf.at hy2 (by simp only [List.mem_cons, List.not_mem_nil, or_false]; omega)
  have hy : h3[y]? = some (.inr (2, [.ref (y + 1), .int (nI (k - q))])) := he
  refine ar_go M_Y_becomeQuotient 2 _ 20 _ [some (.ref y), some (.ref z), some (.int (nI 0))] _ [] rfl ?_
  exact c_Y_qu_loop X (d + 1) h hys hzs hap (by omega) hC (k - q + 2) 0 h3 (by omega) (by omega) hy ha hy2 (k1.tr hf (by simp) (by simp))
