/-! Fraction: reduce -/
def eu : Nat → Nat → (Nat → Nat) → Nat → (Nat → Nat) → Nat × (Nat → Nat)
  | 0, kg, G, _, _ => (kg, G)
  | _ + 1, kg, G, 0, _ => (kg, G)
  | n + 1, kg, G, ks + 1, S => eu n (ks + 1) (ml S (mf_iv (S ks)) (ks + 1)) (trm (dv (ml S (mf_iv (S ks)) (ks + 1)) ks (kg - ks) G) (min kg ks)) (dv (ml S (mf_iv (S ks)) (ks + 1)) ks (kg - ks) G)
theorem c_A_eu_loop (X : am_X) (d : Nat) (h : am_H) {Q : Option Value → am_H → Prop} : ∀ (n st g s kg : Nat) (G : Nat → Nat) (ks : Nat) (S : Nat → Nat) (h1 : am_H) (x4 : Option Value), st + n = 17 → ((g = 15 ∧ s = 17) ∨ (g = 17 ∧ s = 15)) → isF h1 → isP h1 g kg G → isP h1 s ks S → fr [15, 16, 17, 18] h h1 → (∀ (h2 : am_H) (g2 s2 st2 k2 : Nat) (A2 : Nat → Nat) (x4 : Option Value), ((g2 = 15 ∧ s2 = 17) ∨ (g2 = 17 ∧ s2 = 15)) → isF h2 → isP h2 g2 (eu n kg G ks S).1 (eu n kg G ks S).2 → isP h2 s2 k2 A2 → fr [15, 16, 17, 18] h h2 → ar Pg X (d + 1 + 1 + 1) n_A_reduce 70 [some (.ref 10), some (.ref g2), some (.ref s2), some (.int (nI st2)), x4] [] h2 Q) → ar Pg X (d + 1 + 1 + 1) n_A_reduce 34 [some (.ref 10), some (.ref g), some (.ref s), some (.int (nI st)), x4] [] h1 Q := by
  intro n
  induction n with
  | zero =>
    intro st g s kg G ks S h1 x4 hn hgs hO hG hS hF K
    have hst : st = 17 := by omega
    subst hst
    refine ar_go M_A_reduce 2 _ 37 _ [some (.ref 10), some (.ref g), some (.ref s), some (.int (nI 17)), x4] _ [.int (nI 16), .int (nI 17)] rfl ?_
    refine ar_icmp M_A_reduce rfl rfl (fun _ => ?_) (fun z => absurd z (by decide))
    exact K h1 g s 17 ks S x4 hgs hO hG hS hF
  | succ n ih =>
    intro st g s kg G ks S h1 x4 hn hgs hO hG hS hF K
    have hO0 := hO
    unfold isF at hO
    cases ks with
    | zero =>
      refine ar_go M_A_reduce 2 _ 37 _ [some (.ref 10), some (.ref g), some (.ref s), some (.int (nI st)), x4] _ [.int (nI 16), .int (nI st)] rfl ?_
      refine ar_icmp M_A_reduce rfl rfl (fun hc => absurd (c2_gt_t (a := st) (b := 16) (by omega) (by omega) hc) (by omega)) (fun _ => ?_)
      refine ar_go M_A_reduce 1 _ 41 _ [some (.ref 10), some (.ref g), some (.ref s), some (.int (nI st)), x4] _ [.ref s] rfl ?_
      refine ar_get M_A_reduce rfl rfl hS.2.1 rfl ?_
      refine ar_if M_A_reduce rfl rfl (fun _ => ?_) (fun z => absurd z (by decide))
      exact K h1 g s st 0 S x4 hgs hO0 hG hS hF
    | succ ks =>
      have hs : h1[s]? = some (.inr (2, [.ref (s + 1), .int (nI ks)])) := hS.2.1
      have hk17 := hS.1
      refine ar_go M_A_reduce 2 _ 37 _ [some (.ref 10), some (.ref g), some (.ref s), some (.int (nI st)), x4] _ [.int (nI 16), .int (nI st)] rfl ?_
      refine ar_icmp M_A_reduce rfl rfl (fun hc => absurd (c2_gt_t (a := st) (b := 16) (by omega) (by omega) hc) (by omega)) (fun _ => ?_)
      refine ar_go M_A_reduce 1 _ 41 _ [some (.ref 10), some (.ref g), some (.ref s), some (.int (nI st)), x4] _ [.ref s] rfl ?_
      refine ar_get M_A_reduce rfl rfl hs rfl ?_
      refine ar_if M_A_reduce rfl rfl (fun hc => absurd (of_decide_eq_true hc) (nI_pos (by omega))) (fun _ => ?_)
      refine ar_go M_A_reduce 1 _ 48 _ [some (.ref 10), some (.ref g), some (.ref s), some (.int (nI st)), x4] _ [.ref s] rfl ?_
      refine ar_CV M_A_reduce rfl rfl (Or.inl rfl) rfl rfl (Nat.le_of_ble_eq_true rfl) hs M_Y_makeHighestOne (Nat.le_of_ble_eq_true rfl) (c_Y_makeHighestOne X (d + 1) _ hS (by omega)) (fun r1 h2 hq => ?_)
      obtain ⟨rfl, hf1, hS1⟩ := hq
      refine ⟨hf1.1, ?_⟩
      have hG1 := hG.fr hf1 (by simp; omega) (by simp; omega)
      show ar Pg _ _ _ 51 [some (.ref 10), some (.ref g), some (.ref s), some (.int (nI st)), x4] [] _ _
      refine ar_go M_A_reduce 2 _ 53 _ [some (.ref 10), some (.ref g), some (.ref s), some (.int (nI st)), x4] _ [.ref s, .ref g] rfl ?_
      refine ar_CV M_A_reduce rfl rfl (Or.inl rfl) rfl rfl (Nat.le_of_ble_eq_true rfl) hG1.2.1 M_Y_becomeRemainder (Nat.le_of_ble_eq_true rfl) (c_Y_becomeRemainder X d _ hG1 hS1 (by omega) (by omega) (by omega)) (fun r1 h3 hq => ?_)
      obtain ⟨rfl, hf2, hG2⟩ := hq
      refine ⟨hf2.1, ?_⟩
      have hS2 := hS1.fr hf2 (by simp; omega) (by simp; omega)
      show ar Pg _ _ _ 56 [some (.ref 10), some (.ref g), some (.ref s), some (.int (nI st)), x4] [] _ _
      refine ar_go M_A_reduce 6 _ 64 _ [some (.ref 10), some (.ref s), some (.ref g), some (.int (nI st)), some (.ref g)] _ [] rfl ?_
      refine ar_go M_A_reduce 1 _ 67 _ [some (.ref 10), some (.ref s), some (.ref g), some (.int (nI st + Int32.ofInt 1)), some (.ref g)] _ [] rfl ?_
      rw [show nI st + Int32.ofInt 1 = nI (st + 1) from nI_add st 1]
      refine ar_go M_A_reduce 1 _ 34 _ [some (.ref 10), some (.ref s), some (.ref g), some (.int (nI (st + 1))), some (.ref g)] _ [] rfl ?_
      exact ih (st + 1) s g _ _ _ _ h3 _ (by omega) (by omega) (hf2.at (hf1.at hO (by simp; omega)) (by simp; omega)) hS2 hG2 (hF.tr (hf1.tr hf2 (l := [15, 16, 17, 18]) (by simp; omega) (by simp; omega)) (fun _ z => z) (fun _ z => z)) K
theorem wk12 {h : am_H} {g s ka kb : Nat} {A B : Nat → Nat} (hgs : (g = 15 ∧ s = 17) ∨ (g = 17 ∧ s = 15)) (h1 : isP h g ka A) (h2 : isP h s kb B) : (∃ k A, isP h 15 k A) ∧ ∃ k A, isP h 17 k A := by
  rcases hgs with ⟨rfl, rfl⟩ | ⟨rfl, rfl⟩
  · exact ⟨⟨_, _, h1⟩, ⟨_, _, h2⟩⟩
  · exact ⟨⟨_, _, h2⟩, ⟨_, _, h1⟩⟩
theorem c_A_reduce (X : am_X) (d : Nat) (h : am_H) {u l k1 k2 : Nat} {U W A1 A2 : Nat → Nat} (hO : isF h) (hU : isP h 11 (u + 1) U) (hW : isP h 13 (l + 1) W) (h15 : isP h 15 k1 A1) (h17 : isP h 17 k2 A2)
    (hE : ∀ G0 S0 : Nat → Nat, (∀ i, i < 17 → G0 i = U i) → (∀ i, i < 17 → S0 i = W i) → ∃ q G, eu 17 (u + 1) G0 (l + 1) S0 = (q + 1, G) ∧ q ≤ u ∧ q ≤ l) :
    ar Pg X (d + 1 + 1 + 1) n_A_reduce 0 [some (.ref 10), none, none, none, none] [] h (fun rr h' => rr = none ∧ fr [11, 12, 13, 14, 15, 16, 17, 18] h h' ∧ ∃ (G0 S0 : Nat → Nat) (q : Nat) (G : Nat → Nat), (∀ i, i < 17 → G0 i = U i) ∧ (∀ i, i < 17 → S0 i = W i) ∧ eu 17 (u + 1) G0 (l + 1) S0 = (q + 1, G) ∧ isP h' 11 (u - q + 1) (shd (dv G q (u + 1 - q) U) q (u - q + 1)) ∧ isP h' 13 (l - q + 1) (shd (dv G q (l + 1 - q) W) q (l - q + 1)) ∧ (∃ k A, isP h' 15 k A) ∧ ∃ k A, isP h' 17 k A) := by
  unfold isF at hO
  refine ar_go M_A_reduce 1 _ 1 _ [some (.ref 10), none, none, none, none] _ [.ref 10] rfl ?_
  refine ar_get M_A_reduce rfl rfl hO rfl ?_
  refine ar_go M_A_reduce 1 _ 5 _ [some (.ref 10), none, none, none, none] _ [.ref 10, .ref 15] rfl ?_
  refine ar_get M_A_reduce rfl rfl hO rfl ?_
  refine ar_CV M_A_reduce rfl rfl (Or.inl rfl) rfl rfl (Nat.le_of_ble_eq_true rfl) h15.2.1 M_Y_become (Nat.le_of_ble_eq_true rfl) (c_Y_become X (d + 1) _ h15 hU (by decide) (by decide) (by decide)) (fun r1 h2 hq => ?_)
  obtain ⟨rfl, hf1, h15, hag1⟩ := hq
  refine ⟨hf1.1, ?_⟩
  have hO := hf1.at hO (by simp)
  have h17 := h17.fr hf1 (by simp) (by simp)
  have hU2 := hU.fr hf1 (by simp) (by simp)
  have hW2 := hW.fr hf1 (by simp) (by simp)
  show ar Pg _ _ _ 11 [some (.ref 10), none, none, none, none] [] _ _
  refine ar_go M_A_reduce 1 _ 12 _ [some (.ref 10), none, none, none, none] _ [.ref 10] rfl ?_
  refine ar_get M_A_reduce rfl rfl hO rfl ?_
  refine ar_go M_A_reduce 1 _ 16 _ [some (.ref 10), none, none, none, none] _ [.ref 10, .ref 17] rfl ?_
  refine ar_get M_A_reduce rfl rfl hO rfl ?_
  refine ar_CV M_A_reduce rfl rfl (Or.inl rfl) rfl rfl (Nat.le_of_ble_eq_true rfl) h17.2.1 M_Y_become (Nat.le_of_ble_eq_true rfl) (c_Y_become X (d + 1) _ h17 hW2 (by decide) (by decide) (by decide)) (fun r1 h3 hq => ?_)
  obtain ⟨rfl, hf2, h17, hag2⟩ := hq
  refine ⟨hf2.1, ?_⟩
  have hO := hf2.at hO (by simp)
  have h15 := h15.fr hf2 (by simp) (by simp)
  have hU3 := hU2.fr hf2 (by simp) (by simp)
  have hW3 := hW2.fr hf2 (by simp) (by simp)
  have hF3 : fr [15, 16, 17, 18] h h3 := hf1.tr hf2 (by simp) (by simp)
  show ar Pg _ _ _ 22 [some (.ref 10), none, none, none, none] [] _ _
  refine ar_go M_A_reduce 1 _ 23 _ [some (.ref 10), none, none, none, none] _ [.ref 10] rfl ?_
  refine ar_get M_A_reduce rfl rfl hO rfl ?_
  refine ar_go M_A_reduce 2 _ 28 _ [some (.ref 10), some (.ref 15), none, none, none] _ [.ref 10] rfl ?_
  refine ar_get M_A_reduce rfl rfl hO rfl ?_
  refine ar_go M_A_reduce 3 _ 34 _ [some (.ref 10), some (.ref 15), some (.ref 17), some (.int (nI 0)), none] _ [] rfl ?_
  refine c_A_eu_loop X d h 17 0 15 17 (u + 1) _ (l + 1) _ h3 none (by omega) (Or.inl ⟨rfl, rfl⟩) hO h15 h17 hF3 ?_
  intro h4 g2 s2 st2 k2 A2 x4 hgs hO hG4 hS4 hF4
  obtain ⟨q, G, he, hq1, hq2⟩ := hE _ _ hag1 hag2
  rw [he] at hG4
  have hU4 := hU.fr hF4 (by simp) (by simp)
  have hW4 := hW.fr hF4 (by simp) (by simp)
  unfold isF at hO
  refine ar_go M_A_reduce 1 _ 71 _ [some (.ref 10), some (.ref g2), some (.ref s2), some (.int (nI st2)), x4] _ [.ref 10] rfl ?_
  refine ar_get M_A_reduce rfl rfl hO rfl ?_
  refine ar_go M_A_reduce 1 _ 75 _ [some (.ref 10), some (.ref g2), some (.ref s2), some (.int (nI st2)), x4] _ [.ref g2, .ref 11] rfl ?_
  refine ar_CV M_A_reduce rfl rfl (Or.inl rfl) rfl rfl (Nat.le_of_ble_eq_true rfl) hU4.2.1 M_Y_becomeQuotient (Nat.le_of_ble_eq_true rfl) (c_Y_becomeQuotient X d _ hU4 hG4 (by decide) (by omega) (by omega) hq1) (fun r1 h5 hq => ?_)
  obtain ⟨rfl, hf5, hU5⟩ := hq
  refine ⟨hf5.1, ?_⟩
  have hO := hf5.at hO (by simp)
  have hW5 := hW4.fr hf5 (by simp) (by simp)
  have hG5 := hG4.fr hf5 (by simp; omega) (by simp; omega)
  have hS5 := hS4.fr hf5 (by simp; omega) (by simp; omega)
  show ar Pg _ _ _ 78 [some (.ref 10), some (.ref g2), some (.ref s2), some (.int (nI st2)), x4] [] _ _
  refine ar_go M_A_reduce 1 _ 79 _ [some (.ref 10), some (.ref g2), some (.ref s2), some (.int (nI st2)), x4] _ [.ref 10] rfl ?_
  refine ar_get M_A_reduce rfl rfl hO rfl ?_
  refine ar_go M_A_reduce 1 _ 83 _ [some (.ref 10), some (.ref g2), some (.ref s2), some (.int (nI st2)), x4] _ [.ref g2, .ref 13] rfl ?_
  refine ar_CV M_A_reduce rfl rfl (Or.inl rfl) rfl rfl (Nat.le_of_ble_eq_true rfl) hW5.2.1 M_Y_becomeQuotient (Nat.le_of_ble_eq_true rfl) (c_Y_becomeQuotient X d _ hW5 hG5 (by decide) (by omega) (by omega) hq2) (fun r1 h6 hq => ?_)
  obtain ⟨rfl, hf6, hW6⟩ := hq
  refine ⟨hf6.1, ?_⟩
  have hG6 := hG5.fr hf6 (by simp; omega) (by simp; omega)
  have hS6 := hS5.fr hf6 (by simp; omega) (by simp; omega)
  show ar Pg _ _ _ 86 [some (.ref 10), some (.ref g2), some (.ref s2), some (.int (nI st2)), x4] [] _ _
  exact ar_R M_A_reduce rfl rfl rfl rfl (⟨rfl, hF4.tr (hf5.tr hf6 (l := [11, 12, 13, 14]) (by simp) (by simp)) (by simp) (by simp), _, _, q, G, hag1, hag2, he, hU5.fr hf6 (by simp) (by simp), hW6, wk12 hgs hG6 hS6⟩)
