/-! Fraction: find -/
def nN (m na nb : Nat) : Nat := if (m + nb - na) % 2 = 0 then m else m - 1
def uN (m na nb : Nat) : Nat := (nN m na nb + na - nb) / 2
def lN2 (m na nb : Nat) : Nat := (nN m na nb + nb - na) / 2
theorem nN_facts {m na nb : Nat} (h1 : na ≤ nb + m) (h2 : nb ≤ na + m) (hm : 1 ≤ m) : nN m na nb ≤ m ∧ na ≤ nb + nN m na nb ∧ nb ≤ na + nN m na nb ∧ uN m na nb + lN2 m na nb = nN m na nb ∧ (nN m na nb + na - nb) % 2 = 0 ∧ uN m na nb + nb = lN2 m na nb + na := by
  unfold uN lN2 nN
  split <;> omega
theorem df_gt {na nb m : Nat} (ha : na < 1000) (hb : nb < 1000) (hm : m < 1000) : am_c2 .gt (nI na - nI nb) (nI m) = decide (nb + m < na) := by
  unfold am_c2
  apply decide_eq_decide.mpr
  rw [Int32.lt_iff_toInt_lt, pk_sub_toInt (by omega) (by omega), nI_toInt (by omega)]
  omega
theorem df_ge {na nb m : Nat} (ha : na < 1000) (hb : nb < 1000) (hm : m < 1000) : am_c2 .ge (nI na - nI nb) (-nI m) = decide (nb ≤ na + m) := by
  unfold am_c2
  apply decide_eq_decide.mpr
  rw [Int32.le_iff_toInt_le, pk_sub_toInt (by omega) (by omega), sb_negT (by omega)]
  omega
theorem df_m {na nb m : Nat} (h : na ≤ nb + m) : nI m - (nI na - nI nb) = nI (m + nb - na) := by
  rw [← pk_sub (a := m + nb) (b := na) (by omega), ← nI_add m nb]
  grind
theorem df_p {na nb m : Nat} (h : nb ≤ na + m) : nI m + (nI na - nI nb) = nI (m + na - nb) := by
  rw [← pk_sub (a := m + na) (b := nb) (by omega), ← nI_add m na]
  grind
def sM (M : Nat → Nat → Nat) (SA SB : Nat → Nat) (u l : Nat) : Nat → Nat → Nat → Nat
  | 0 => M
  | k + 1 => updM (sM M SA SB u l k) k (srw (sM M SA SB u l k k) (1073741824 + k) (SA k) (SB k) u l)
theorem c_A_fi_loop (X : am_X) (d : Nat) (h : am_H) {ra rb m na nb n u l c0 : Nat} {ro : Nat → Nat} {M : Nat → Nat → Nat} {uk : Nat → Option Nat} {SA SB : Nat → Nat} {Q : Option Value → am_H → Prop} (hn : n ≤ 16) (hul : u + l < 17) (hSA : lt18 SA) (hSB : lt18 SB)
    (K : ∀ h1 : am_H, isQ h1 ro c0 (sM M SA SB u l n) uk → fr eqL h h1 → ar Pg X (d + 1 + 1) n_A_find 121 [some (.ref 10), some (.ref ra), some (.ref rb), some (.int (nI m)), some (.int (nI na - nI nb)), some (.int (nI n)), some (.int (nI u)), some (.int (nI l)), some (.int (nI n))] [] h1 Q) :
    ∀ (j k : Nat) (h1 : am_H), n - k < j → k ≤ n → isF h1 → isQ h1 ro c0 (sM M SA SB u l k) uk → isLA h1 38 18 SA → isLA h1 39 18 SB → fr eqL h h1 → ar Pg X (d + 1 + 1) n_A_find 74 [some (.ref 10), some (.ref ra), some (.ref rb), some (.int (nI m)), some (.int (nI na - nI nb)), some (.int (nI n)), some (.int (nI u)), some (.int (nI l)), some (.int (nI k))] [] h1 Q := by
  intro j
  induction j with
  | zero => intro k h1 hj; omega
  | succ j ih =>
    intro k h1 hj hk hO hQ h38 h39 hF
    unfold isF at hO
    unfold isLA at h38 h39
    refine ar_go M_A_find 2 _ 78 _ [some (.ref 10), some (.ref ra), some (.ref rb), some (.int (nI m)), some (.int (nI na - nI nb)), some (.int (nI n)), some (.int (nI u)), some (.int (nI l)), some (.int (nI k))] _ [.int (nI n), .int (nI k)] rfl ?_
    refine ar_icmp M_A_find rfl rfl (fun hc => ?_) (fun hc => ?_)
    · have hc := c2_ge_t (a := k) (b := n) (by omega) (by omega) hc
      have hi2 : k = n := by omega
      rw [hi2] at hQ ⊢
      exact K h1 hQ hF
    · have hc := c2_ge_f (a := k) (b := n) (by omega) (by omega) hc
      have hsa := hSA k (by omega)
      have hsb := hSB k (by omega)
      refine ar_go M_A_find 1 _ 82 _ [some (.ref 10), some (.ref ra), some (.ref rb), some (.int (nI m)), some (.int (nI na - nI nb)), some (.int (nI n)), some (.int (nI u)), some (.int (nI l)), some (.int (nI k))] _ [.ref 10] rfl ?_
      refine ar_get M_A_find rfl rfl hO rfl ?_
      refine ar_go M_A_find 4 _ 93 _ [some (.ref 10), some (.ref ra), some (.ref rb), some (.int (nI m)), some (.int (nI na - nI nb)), some (.int (nI n)), some (.int (nI u)), some (.int (nI l)), some (.int (nI k))] _ [.long ((nI k).toInt64), .long (lN 1073741824), .int (nI k), .ref 19] rfl ?_
      refine ar_top (w := .long (lN k)) (congrArg Value.long (nI_l (by omega))) ?_
      refine ar_go M_A_find 1 _ 94 _ [some (.ref 10), some (.ref ra), some (.ref rb), some (.int (nI m)), some (.int (nI na - nI nb)), some (.int (nI n)), some (.int (nI u)), some (.int (nI l)), some (.int (nI k))] _ [.long (lN 1073741824 + lN k), .int (nI k), .ref 19] rfl ?_
      refine ar_top (w := .long (lN (1073741824 + k))) (congrArg Value.long (lN_add 1073741824 k)) ?_
      refine ar_go M_A_find 1 _ 95 _ [some (.ref 10), some (.ref ra), some (.ref rb), some (.int (nI m)), some (.int (nI na - nI nb)), some (.int (nI n)), some (.int (nI u)), some (.int (nI l)), some (.int (nI k))] _ [.ref 10, .long (lN (1073741824 + k)), .int (nI k), .ref 19] rfl ?_
      refine ar_get M_A_find rfl rfl hO rfl ?_
      refine ar_go M_A_find 1 _ 100 _ [some (.ref 10), some (.ref ra), some (.ref rb), some (.int (nI m)), some (.int (nI na - nI nb)), some (.int (nI n)), some (.int (nI u)), some (.int (nI l)), some (.int (nI k))] _ [.int (nI k), .ref 38, .long (lN (1073741824 + k)), .int (nI k), .ref 19] rfl ?_
      refine ar_lald M_A_find rfl h38 (vp_in_nI (by omega) (by decide)) ?_
      rw [nI_clamp (n := k) (by omega)]
      refine ar_go M_A_find 1 _ 102 _ [some (.ref 10), some (.ref ra), some (.ref rb), some (.int (nI m)), some (.int (nI na - nI nb)), some (.int (nI n)), some (.int (nI u)), some (.int (nI l)), some (.int (nI k))] _ [.ref 10, .long (lN (SA k)), .long (lN (1073741824 + k)), .int (nI k), .ref 19] rfl ?_
      refine ar_get M_A_find rfl rfl hO rfl ?_
      refine ar_go M_A_find 1 _ 107 _ [some (.ref 10), some (.ref ra), some (.ref rb), some (.int (nI m)), some (.int (nI na - nI nb)), some (.int (nI n)), some (.int (nI u)), some (.int (nI l)), some (.int (nI k))] _ [.int (nI k), .ref 39, .long (lN (SA k)), .long (lN (1073741824 + k)), .int (nI k), .ref 19] rfl ?_
      refine ar_lald M_A_find rfl h39 (vp_in_nI (by omega) (by decide)) ?_
      rw [nI_clamp (n := k) (by omega)]
      refine ar_go M_A_find 2 _ 112 _ [some (.ref 10), some (.ref ra), some (.ref rb), some (.int (nI m)), some (.int (nI na - nI nb)), some (.int (nI n)), some (.int (nI u)), some (.int (nI l)), some (.int (nI k))] _ [.int (nI l), .int (nI u), .long (lN (SB k)), .long (lN (SA k)), .long (lN (1073741824 + k)), .int (nI k), .ref 19] rfl ?_
      refine ar_CV M_A_find rfl rfl (Or.inl rfl) rfl rfl (Nat.le_of_ble_eq_true rfl) hQ.1 M_Q_setRow (Nat.le_of_ble_eq_true rfl) (c_Q_setRow X d _ hQ (by omega) (by omega) (by omega) hsa hsb) (fun r1 h2 hq => ?_)
      obtain ⟨rfl, hf, hQ2⟩ := hq
      refine ⟨hf.1, ?_⟩
      show ar Pg _ _ _ 115 [some (.ref 10), some (.ref ra), some (.ref rb), some (.int (nI m)), some (.int (nI na - nI nb)), some (.int (nI n)), some (.int (nI u)), some (.int (nI l)), some (.int (nI k))] [] _ _
      refine ar_go M_A_find 1 _ 118 _ [some (.ref 10), some (.ref ra), some (.ref rb), some (.int (nI m)), some (.int (nI na - nI nb)), some (.int (nI n)), some (.int (nI u)), some (.int (nI l)), some (.int (nI k + Int32.ofInt 1))] _ [] rfl ?_
      rw [show nI k + Int32.ofInt 1 = nI (k + 1) from nI_add k 1]
      refine ar_go M_A_find 1 _ 74 _ [some (.ref 10), some (.ref ra), some (.ref rb), some (.int (nI m)), some (.int (nI na - nI nb)), some (.int (nI n)), some (.int (nI u)), some (.int (nI l)), some (.int (nI (k + 1)))] _ [] rfl ?_
      exact ih (k + 1) h2 (by omega) (by omega) (hf.at hO (by rw [mem_eqL]; omega)) hQ2 (hf.at h38 (by rw [mem_eqL]; omega)) (hf.at h39 (by rw [mem_eqL]; omega)) (hF.tr hf (fun _ z => z) (fun _ z => z))
/-- what find reckons: the matrix, the state behind Gauss and Jordan, the two polynomials -/
def fdG (M : Nat → Nat → Nat) (uk : Nat → Option Nat) (SA SB : Nat → Nat) (m na nb : Nat) : (Nat → Nat → Nat) × (Nat → Option Nat) × Nat := gj (nN m na nb) (sM M SA SB (uN m na nb) (lN2 m na nb) (nN m na nb)) uk (nN m na nb)
def fdOk (G : (Nat → Nat → Nat) × (Nat → Option Nat) × Nat) (n : Nat) : Bool := rs0 G.1 n (n - G.2.2) G.2.2
def fdP (A : Nat → Nat) (G : (Nat → Nat → Nat) × (Nat → Option Nat) × Nat) (n fst nd : Nat) : Nat → Nat := updN (bs A G.1 G.2.1 n fst nd) nd 1
def fdL : List Nat := 11 :: 12 :: 13 :: 14 :: 38 :: 39 :: eqL
theorem mem_fdL {k : Nat} : k ∈ fdL ↔ k = 11 ∨ k = 12 ∨ k = 13 ∨ k = 14 ∨ (19 ≤ k ∧ k < 40) := by
  unfold fdL
  simp only [List.mem_cons, mem_eqL]
  omega
theorem c_A_fi2 (X : am_X) (d : Nat) (h : am_H) {ra rb m na nb : Nat} {ro : Nat → Nat} {c0 k1 k2 : Nat} {M : Nat → Nat → Nat} {uk : Nat → Option Nat} {U W SA SB : Nat → Nat} (hm1 : 1 ≤ m) (hm : m ≤ 16) (hna : na ≤ 64) (hnb : nb ≤ 64) (hr1 : na ≤ nb + m) (hr2 : nb ≤ na + m) (hO : isF h) (hQ : isQ h ro c0 M uk) (hU : isP h 11 k1 U) (hW : isP h 13 k2 W) (h38 : isLA h 38 18 SA) (h39 : isLA h 39 18 SB) (hSA : lt18 SA) (hSB : lt18 SB) : ar Pg X (d + 1 + 1 + 1) n_A_find 51 [some (.ref 10), some (.ref ra), some (.ref rb), some (.int (nI m)), some (.int (nI na - nI nb)), none, none, none, none] [.int (nI (nN m na nb))] h (fun rr h' => ∃ ok : Bool, rr = some (.int (bi ok)) ∧ fr fdL h h' ∧ ok = fdOk (fdG M uk SA SB m na nb) (nN m na nb) ∧ isLA h' 38 18 SA ∧ isLA h' 39 18 SB ∧ (∃ ro', isQ h' ro' (nN m na nb) (fdG M uk SA SB m na nb).1 (fdG M uk SA SB m na nb).2.1) ∧ (ok = true → isP h' 11 (uN m na nb + 1) (fdP U (fdG M uk SA SB m na nb) (nN m na nb) 0 (uN m na nb)) ∧ isP h' 13 (lN2 m na nb + 1) (fdP W (fdG M uk SA SB m na nb) (nN m na nb) (uN m na nb) (lN2 m na nb))) ∧ (ok = false → isP h' 11 k1 U ∧ isP h' 13 k2 W)) := by
  obtain ⟨e1, e2, e3, e4, e5, e6⟩ := nN_facts hr1 hr2 hm1
  unfold isF at hO
  refine ar_go M_A_find 4 _ 58 _ [some (.ref 10), some (.ref ra), some (.ref rb), some (.int (nI m)), some (.int (nI na - nI nb)), some (.int (nI (nN m na nb))), none, none, none] _ [.int (nI (nN m na nb) + (nI na - nI nb))] rfl ?_
  refine ar_top (w := .int (nI (nN m na nb + na - nb))) (congrArg Value.int (df_p (by omega))) ?_
  refine ar_go M_A_find 1 _ 59 _ [some (.ref 10), some (.ref ra), some (.ref rb), some (.int (nI m)), some (.int (nI na - nI nb)), some (.int (nI (nN m na nb))), none, none, none] _ [.int (nI 2), .int (nI (nN m na nb + na - nb))] rfl ?_
  refine ar_idiv M_A_find rfl (by decide) ?_
  refine ar_top (w := .int (nI (uN m na nb))) (congrArg Value.int (pk_div (by omega) (by decide) (by decide))) ?_
  refine ar_go M_A_find 4 _ 67 _ [some (.ref 10), some (.ref ra), some (.ref rb), some (.int (nI m)), some (.int (nI na - nI nb)), some (.int (nI (nN m na nb))), some (.int (nI (uN m na nb))), none, none] _ [.int (nI (nN m na nb) - (nI na - nI nb))] rfl ?_
  refine ar_top (w := .int (nI (nN m na nb + nb - na))) (congrArg Value.int (df_m (by omega))) ?_
  refine ar_go M_A_find 1 _ 68 _ [some (.ref 10), some (.ref ra), some (.ref rb), some (.int (nI m)), some (.int (nI na - nI nb)), some (.int (nI (nN m na nb))), some (.int (nI (uN m na nb))), none, none] _ [.int (nI 2), .int (nI (nN m na nb + nb - na))] rfl ?_
  refine ar_idiv M_A_find rfl (by decide) ?_
  refine ar_top (w := .int (nI (lN2 m na nb))) (congrArg Value.int (pk_div (by omega) (by decide) (by decide))) ?_
  refine ar_go M_A_find 3 _ 74 _ [some (.ref 10), some (.ref ra), some (.ref rb), some (.int (nI m)), some (.int (nI na - nI nb)), some (.int (nI (nN m na nb))), some (.int (nI (uN m na nb))), some (.int (nI (lN2 m na nb))), some (.int (nI 0))] _ [] rfl ?_
  refine c_A_fi_loop X (d + 1) h (M := M) (SA := SA) (SB := SB) (n := nN m na nb) (u := uN m na nb) (l := lN2 m na nb) (by omega) (by omega) hSA hSB ?_ (nN m na nb + 1) 0 h (by omega) (by omega) hO hQ h38 h39 (fr.rf _ _)
  intro h1 hQ1 hF1
  have hO := hF1.at hO (by rw [mem_eqL]; omega)
  refine ar_go M_A_find 1 _ 122 _ [some (.ref 10), some (.ref ra), some (.ref rb), some (.int (nI m)), some (.int (nI na - nI nb)), some (.int (nI (nN m na nb))), some (.int (nI (uN m na nb))), some (.int (nI (lN2 m na nb))), some (.int (nI (nN m na nb)))] _ [.ref 10] rfl ?_
  refine ar_get M_A_find rfl rfl hO rfl ?_
  refine ar_go M_A_find 1 _ 127 _ [some (.ref 10), some (.ref ra), some (.ref rb), some (.int (nI m)), some (.int (nI na - nI nb)), some (.int (nI (nN m na nb))), some (.int (nI (uN m na nb))), some (.int (nI (lN2 m na nb))), some (.int (nI (nN m na nb)))] _ [.int (nI (nN m na nb)), .ref 19] rfl ?_
  refine ar_CV M_A_find rfl rfl (Or.inl rfl) rfl rfl (Nat.le_of_ble_eq_true rfl) hQ1.1 M_Q_solve (Nat.le_of_ble_eq_true rfl) (c_Q_solve X d _ hQ1 (by omega)) (fun r1 h2 hq => ?_)
  obtain ⟨ro2, rfl, hF2, hQ2⟩ := hq
  refine ⟨hF2.1, ?_⟩
  have hO := hF2.at hO (by rw [mem_eqL]; omega)
  have hF3 := hF1.tr hF2 (l := eqL) (fun _ z => z) (fun _ z => z)
  have hU := hU.fr hF3 (by rw [mem_eqL]; omega) (by rw [mem_eqL]; omega)
  have hW := hW.fr hF3 (by rw [mem_eqL]; omega) (by rw [mem_eqL]; omega)
  have h38 := hF3.at h38 (by rw [mem_eqL]; omega)
  have h39 := hF3.at h39 (by rw [mem_eqL]; omega)
  have hQ2 : isQ h2 ro2 (nN m na nb) (fdG M uk SA SB m na nb).1 (fdG M uk SA SB m na nb).2.1 := hQ2
  show ar Pg _ _ _ 130 [some (.ref 10), some (.ref ra), some (.ref rb), some (.int (nI m)), some (.int (nI na - nI nb)), some (.int (nI (nN m na nb))), some (.int (nI (uN m na nb))), some (.int (nI (lN2 m na nb))), some (.int (nI (nN m na nb)))] [.int (bi (fdOk (fdG M uk SA SB m na nb) (nN m na nb)))] _ _
  refine ar_if M_A_find rfl rfl (fun hc => ?_) (fun hc => ?_)
  · have hc := bi_ne_t hc
    have huk := gj_uk (c := nN m na nb) (by omega) (sM M SA SB (uN m na nb) (lN2 m na nb) (nN m na nb)) uk (nN m na nb) (Nat.le_refl _)
    refine ar_go M_A_find 1 _ 136 _ [some (.ref 10), some (.ref ra), some (.ref rb), some (.int (nI m)), some (.int (nI na - nI nb)), some (.int (nI (nN m na nb))), some (.int (nI (uN m na nb))), some (.int (nI (lN2 m na nb))), some (.int (nI (nN m na nb)))] _ [.ref 10] rfl ?_
    refine ar_get M_A_find rfl rfl hO rfl ?_
    refine ar_go M_A_find 1 _ 140 _ [some (.ref 10), some (.ref ra), some (.ref rb), some (.int (nI m)), some (.int (nI na - nI nb)), some (.int (nI (nN m na nb))), some (.int (nI (uN m na nb))), some (.int (nI (lN2 m na nb))), some (.int (nI (nN m na nb)))] _ [.ref 10, .ref 11] rfl ?_
    refine ar_get M_A_find rfl rfl hO rfl ?_
    refine ar_go M_A_find 2 _ 146 _ [some (.ref 10), some (.ref ra), some (.ref rb), some (.int (nI m)), some (.int (nI na - nI nb)), some (.int (nI (nN m na nb))), some (.int (nI (uN m na nb))), some (.int (nI (lN2 m na nb))), some (.int (nI (nN m na nb)))] _ [.int (nI (uN m na nb)), .int (nI 0), .ref 19, .ref 11] rfl ?_
    refine ar_CV M_A_find rfl rfl (Or.inl rfl) rfl rfl (Nat.le_of_ble_eq_true rfl) hU.2.1 M_Y_becomeSolution (Nat.le_of_ble_eq_true rfl) (c_Y_becomeSolution X (d + 1) _ hU hQ2 (by decide) (by omega) (by omega) (by omega) huk) (fun r1 h4 hq => ?_)
    obtain ⟨rfl, hf4, hU4⟩ := hq
    refine ⟨hf4.1, ?_⟩
    have hO := hf4.at hO (by simp)
    have hW := hW.fr hf4 (by simp) (by simp)
    have hQ4 := hQ2.mv hf4 (by intro k h1 h2; simp; omega)
    show ar Pg _ _ _ 149 [some (.ref 10), some (.ref ra), some (.ref rb), some (.int (nI m)), some (.int (nI na - nI nb)), some (.int (nI (nN m na nb))), some (.int (nI (uN m na nb))), some (.int (nI (lN2 m na nb))), some (.int (nI (nN m na nb)))] [] _ _
    refine ar_go M_A_find 1 _ 150 _ [some (.ref 10), some (.ref ra), some (.ref rb), some (.int (nI m)), some (.int (nI na - nI nb)), some (.int (nI (nN m na nb))), some (.int (nI (uN m na nb))), some (.int (nI (lN2 m na nb))), some (.int (nI (nN m na nb)))] _ [.ref 10] rfl ?_
    refine ar_get M_A_find rfl rfl hO rfl ?_
    refine ar_go M_A_find 1 _ 154 _ [some (.ref 10), some (.ref ra), some (.ref rb), some (.int (nI m)), some (.int (nI na - nI nb)), some (.int (nI (nN m na nb))), some (.int (nI (uN m na nb))), some (.int (nI (lN2 m na nb))), some (.int (nI (nN m na nb)))] _ [.ref 10, .ref 13] rfl ?_
    refine ar_get M_A_find rfl rfl hO rfl ?_
    refine ar_go M_A_find 2 _ 161 _ [some (.ref 10), some (.ref ra), some (.ref rb), some (.int (nI m)), some (.int (nI na - nI nb)), some (.int (nI (nN m na nb))), some (.int (nI (uN m na nb))), some (.int (nI (lN2 m na nb))), some (.int (nI (nN m na nb)))] _ [.int (nI (lN2 m na nb)), .int (nI (uN m na nb)), .ref 19, .ref 13] rfl ?_
    refine ar_CV M_A_find rfl rfl (Or.inl rfl) rfl rfl (Nat.le_of_ble_eq_true rfl) hW.2.1 M_Y_becomeSolution (Nat.le_of_ble_eq_true rfl) (c_Y_becomeSolution X (d + 1) _ hW hQ4 (by decide) (by omega) (by omega) (by omega) huk) (fun r1 h5 hq => ?_)
    obtain ⟨rfl, hf5, hW5⟩ := hq
    refine ⟨hf5.1, ?_⟩
    show ar Pg _ _ _ 164 [some (.ref 10), some (.ref ra), some (.ref rb), some (.int (nI m)), some (.int (nI na - nI nb)), some (.int (nI (nN m na nb))), some (.int (nI (uN m na nb))), some (.int (nI (lN2 m na nb))), some (.int (nI (nN m na nb)))] [] _ _
    refine ar_go M_A_find 1 _ 165 _ [some (.ref 10), some (.ref ra), some (.ref rb), some (.int (nI m)), some (.int (nI na - nI nb)), some (.int (nI (nN m na nb))), some (.int (nI (uN m na nb))), some (.int (nI (lN2 m na nb))), some (.int (nI (nN m na nb)))] _ [.int (nI 1)] rfl ?_
    exact ar_zret M_A_find rfl rfl (Or.inr rfl) (⟨true, rfl, (hF3.mono (l := fdL) (fun k hk => by rw [mem_eqL] at hk; rw [mem_fdL]; omega)).tr (hf4.tr hf5 (l := [11, 12, 13, 14]) (by simp) (by simp)) (fun _ z => z) (fun k hk => by rw [mem_fdL]; simp at hk; omega), hc.symm, hf5.at (hf4.at h38 (by simp)) (by simp), hf5.at (hf4.at h39 (by simp)) (by simp), ⟨ro2, hQ4.mv hf5 (by intro k h1 h2; simp; omega)⟩, fun _ => ⟨hU4.fr hf5 (by simp) (by simp), hW5⟩, fun z => (by cases z)⟩)
  · have hc := bi_ne_f hc
    refine ar_go M_A_find 1 _ 134 _ [some (.ref 10), some (.ref ra), some (.ref rb), some (.int (nI m)), some (.int (nI na - nI nb)), some (.int (nI (nN m na nb))), some (.int (nI (uN m na nb))), some (.int (nI (lN2 m na nb))), some (.int (nI (nN m na nb)))] _ [.int (nI 0)] rfl ?_
    exact ar_zret M_A_find rfl rfl (Or.inl rfl) (⟨false, rfl, hF3.mono (fun k hk => by rw [mem_eqL] at hk; rw [mem_fdL]; omega), hc.symm, h38, h39, ⟨ro2, hQ2⟩, fun z => (by cases z), fun _ => ⟨hU, hW⟩⟩)
theorem c_A_find (X : am_X) (d : Nat) (h : am_H) {ra rb m : Nat} {la lb : Bk} {ro : Nat → Nat} {c0 k1 k2 : Nat} {M : Nat → Nat → Nat} {uk : Nat → Option Nat} {U W SA SB : Nat → Nat} (hra : 40 ≤ ra ∧ ra < 56) (hrb : 40 ≤ rb ∧ rb < 56) (hWa : bkW la) (hWb : bkW lb) (hm1 : 1 ≤ m) (hm : m ≤ 16) (hO : isF h) (hRa : isR h ra la) (hRb : isR h rb lb) (hQ : isQ h ro c0 M uk) (hU : isP h 11 k1 U) (hW : isP h 13 k2 W) (h38 : isLA h 38 18 SA) (h39 : isLA h 39 18 SB) (hSA : lt18 SA) (hSB : lt18 SB) : ar Pg X (d + 1 + 1 + 1) n_A_find 0 [some (.ref 10), some (.ref ra), some (.ref rb), some (.int (nI m)), none, none, none, none, none] [] h (fun rr h' => ((lb.length + m < la.length ∨ la.length + m < lb.length) ∧ rr = some (.int (bi false)) ∧ h' = h) ∨ (la.length ≤ lb.length + m ∧ lb.length ≤ la.length + m ∧ ∃ ok : Bool, rr = some (.int (bi ok)) ∧ fr fdL h h' ∧ ok = fdOk (fdG M uk (tk SA la (m + 2)) (tk SB lb (m + 2)) m la.length lb.length) (nN m la.length lb.length) ∧ isLA h' 38 18 (tk SA la (m + 2)) ∧ isLA h' 39 18 (tk SB lb (m + 2)) ∧ (∃ ro', isQ h' ro' (nN m la.length lb.length) (fdG M uk (tk SA la (m + 2)) (tk SB lb (m + 2)) m la.length lb.length).1 (fdG M uk (tk SA la (m + 2)) (tk SB lb (m + 2)) m la.length lb.length).2.1) ∧ (ok = true → isP h' 11 (uN m la.length lb.length + 1) (fdP U (fdG M uk (tk SA la (m + 2)) (tk SB lb (m + 2)) m la.length lb.length) (nN m la.length lb.length) 0 (uN m la.length lb.length)) ∧ isP h' 13 (lN2 m la.length lb.length + 1) (fdP W (fdG M uk (tk SA la (m + 2)) (tk SB lb (m + 2)) m la.length lb.length) (nN m la.length lb.length) (uN m la.length lb.length) (lN2 m la.length lb.length))) ∧ (ok = false → isP h' 11 k1 U ∧ isP h' 13 k2 W))) := by
  have hO0 := hO
  unfold isF at hO
  have hla := hRa.1
  have hlb := hRb.1
  refine ar_go M_A_find 1 _ 1 _ [some (.ref 10), some (.ref ra), some (.ref rb), some (.int (nI m)), none, none, none, none, none] _ [.ref ra] rfl ?_
  refine ar_get M_A_find rfl rfl hRa.2.1 rfl ?_
  refine ar_go M_A_find 1 _ 5 _ [some (.ref 10), some (.ref ra), some (.ref rb), some (.int (nI m)), none, none, none, none, none] _ [.ref rb, .int (nI la.length)] rfl ?_
  refine ar_get M_A_find rfl rfl hRb.2.1 rfl ?_
  refine ar_go M_A_find 1 _ 9 _ [some (.ref 10), some (.ref ra), some (.ref rb), some (.int (nI m)), none, none, none, none, none] _ [.int (nI la.length - nI lb.length)] rfl ?_
  refine ar_top (w := .int (nI la.length - nI lb.length)) (congrArg Value.int rfl) ?_
  refine ar_go M_A_find 3 _ 14 _ [some (.ref 10), some (.ref ra), some (.ref rb), some (.int (nI m)), some (.int (nI la.length - nI lb.length)), none, none, none, none] _ [.int (nI m), .int (nI la.length - nI lb.length)] rfl ?_
  refine ar_icmp M_A_find rfl rfl (fun hc => ?_) (fun hc => ?_)
  · rw [df_gt (by omega) (by omega) (by omega)] at hc
    have hc := of_decide_eq_true hc
    refine ar_go M_A_find 1 _ 25 _ [some (.ref 10), some (.ref ra), some (.ref rb), some (.int (nI m)), some (.int (nI la.length - nI lb.length)), none, none, none, none] _ [.int (nI 0)] rfl ?_
    exact ar_zret M_A_find rfl rfl (Or.inl rfl) (Or.inl ⟨Or.inl hc, rfl, rfl⟩)
  · rw [df_gt (by omega) (by omega) (by omega)] at hc
    have hc := of_decide_eq_false hc
    refine ar_go M_A_find 3 _ 21 _ [some (.ref 10), some (.ref ra), some (.ref rb), some (.int (nI m)), some (.int (nI la.length - nI lb.length)), none, none, none, none] _ [.int (-(nI m)), .int (nI la.length - nI lb.length)] rfl ?_
    refine ar_icmp M_A_find rfl rfl (fun hc2 => ?_) (fun hc2 => ?_)
    · rw [df_ge (by omega) (by omega) (by omega)] at hc2
      have hc2 := of_decide_eq_true hc2
      refine ar_go M_A_find 6 _ 32 _ [some (.ref 10), some (.ref ra), some (.ref rb), some (.int (nI m)), some (.int (nI la.length - nI lb.length)), none, none, none, none] _ [.int (nI m + nI 2), .ref rb, .ref ra, .ref 10] rfl ?_
      refine ar_top (w := .int (nI (m + 2))) (congrArg Value.int (nI_add m 2)) ?_
      refine ar_CV M_A_find rfl rfl (Or.inl rfl) rfl rfl (Nat.le_of_ble_eq_true rfl) hO M_A_takeSamples (Nat.le_of_ble_eq_true rfl) (c_A_takeSamples X d _ hra hrb hWa hWb (by omega) hO0 hRa hRb h38 h39) (fun r1 h2 hq => ?_)
      obtain ⟨rfl, hf1, h381, h391⟩ := hq
      refine ⟨hf1.1, ?_⟩
      have hO := hf1.at hO (by simp)
      have hU := hU.fr hf1 (by simp) (by simp)
      have hW := hW.fr hf1 (by simp) (by simp)
      have hQ := hQ.mv hf1 (by intro k h1 h2; simp; omega)
      show ar Pg _ _ _ 35 [some (.ref 10), some (.ref ra), some (.ref rb), some (.int (nI m)), some (.int (nI la.length - nI lb.length)), none, none, none, none] [] _ _
      refine ar_go M_A_find 3 _ 39 _ [some (.ref 10), some (.ref ra), some (.ref rb), some (.int (nI m)), some (.int (nI la.length - nI lb.length)), none, none, none, none] _ [.int (nI m - (nI la.length - nI lb.length))] rfl ?_
      refine ar_top (w := .int (nI (m + lb.length - la.length))) (congrArg Value.int (df_m (by omega))) ?_
      refine ar_go M_A_find 1 _ 40 _ [some (.ref 10), some (.ref ra), some (.ref rb), some (.int (nI m)), some (.int (nI la.length - nI lb.length)), none, none, none, none] _ [.int (nI 2), .int (nI (m + lb.length - la.length))] rfl ?_
      refine ar_irem M_A_find rfl (by decide) ?_
      refine ar_top (w := .int (nI ((m + lb.length - la.length) % 2))) (congrArg Value.int (pk_rem (by omega) (by decide) (by decide))) ?_
      refine ar_if M_A_find rfl rfl (fun hc3 => ?_) (fun hc3 => ?_)
      · have hc3 := c2_ne_t (a := ((m + lb.length - la.length) % 2)) (b := 0) (by omega) (by omega) hc3
        refine ar_go M_A_find 3 _ 51 _ [some (.ref 10), some (.ref ra), some (.ref rb), some (.int (nI m)), some (.int (nI la.length - nI lb.length)), none, none, none, none] _ [.int (nI m - nI 1)] rfl ?_
        refine ar_top (w := .int (nI (m - 1))) (congrArg Value.int (pk_sub (by omega))) ?_
        rw [show nI (m - 1) = nI (nN m la.length lb.length) by unfold nN; rw [if_neg hc3]]
        refine ar_mono (c_A_fi2 X d h2 hm1 hm (by omega) (by omega) (by omega) (by omega) hO hQ hU hW h381 h391 (tk_18 hSA la _) (tk_18 hSB lb _)) (fun rr h3 ⟨ok, p1, p2, p3⟩ => Or.inr ⟨by omega, by omega, ok, p1, hf1.tr p2 (fun k hk => by rw [mem_fdL]; simp at hk; omega) (fun _ z => z), p3⟩)
      · have hc3 := c2_ne_f (a := ((m + lb.length - la.length) % 2)) (b := 0) (by omega) (by omega) hc3
        refine ar_go M_A_find 2 _ 51 _ [some (.ref 10), some (.ref ra), some (.ref rb), some (.int (nI m)), some (.int (nI la.length - nI lb.length)), none, none, none, none] _ [.int (nI m)] rfl ?_
        rw [show (Value.int (nI m) :: []) = [Value.int (nI (nN m la.length lb.length))] by unfold nN; rw [if_pos hc3]]
        refine ar_mono (c_A_fi2 X d h2 hm1 hm (by omega) (by omega) (by omega) (by omega) hO hQ hU hW h381 h391 (tk_18 hSA la _) (tk_18 hSB lb _)) (fun rr h3 ⟨ok, p1, p2, p3⟩ => Or.inr ⟨by omega, by omega, ok, p1, hf1.tr p2 (fun k hk => by rw [mem_fdL]; simp at hk; omega) (fun _ z => z), p3⟩)
    · rw [df_ge (by omega) (by omega) (by omega)] at hc2
      have hc2 := of_decide_eq_false hc2
      refine ar_go M_A_find 1 _ 25 _ [some (.ref 10), some (.ref ra), some (.ref rb), some (.int (nI m)), some (.int (nI la.length - nI lb.length)), none, none, none, none] _ [.int (nI 0)] rfl ?_
      exact ar_zret M_A_find rfl rfl (Or.inl rfl) (Or.inl ⟨Or.inr (by omega), rfl, rfl⟩)
