/-! The reference: choose -/
theorem c_M_ch_1 (X : am_X) (d : Nat) (h : am_H) {s : Int64} {ud ld nd tn : Int32} {pr : Int32} {C Ua : Nat → Nat} {u l r : Nat} {x2 x3 : Option Value} (hul : u ≤ 16 ∧ l ≤ 16) (hr : r < 18) (h64 : isLA h 64 612 C) {Q : Option Value → am_H → Prop} (K : ∀ h1 : am_H, isM0 h1 s ud ld pr (nI u) (nI l) nd tn → isLA h1 66 17 (mx (fun j => C (34 * r + 0 + j)) Ua (u + 1)) → fr [66] h h1 → ar Pg X d n_M_choose 117 [some (.ref 56), some (.int (nI r)), x2, x3, none, some (.int (nI (u + 1)))] [] h1 Q) : ∀ (n i : Nat) (h1 : am_H), u + 1 - i < n → i ≤ u + 1 → isM0 h1 s ud ld pr (nI u) (nI l) nd tn → isLA h1 66 17 (mx (fun j => C (34 * r + 0 + j)) Ua i) → fr [66] h h1 → ar Pg X d n_M_choose 81 [some (.ref 56), some (.int (nI r)), x2, x3, none, some (.int (nI i))] [] h1 Q := by
  intro n
  induction n with
  | zero => intro i h1 hi; omega
  | succ n ih =>
    intro i h1 hi hil h56 h66 hF
    have h64 : isLA h1 64 612 C := hF.at h64 (by simp)
    have h560 := h56
    unfold isM0 at h56
    unfold isLA at h64 h66
    refine ar_go M_M_choose 2 _ 84 _ [some (.ref 56), some (.int (nI r)), x2, x3, none, some (.int (nI i))] _ [.ref 56, .int (nI i)] rfl ?_
    refine ar_get M_M_choose rfl rfl h56 rfl ?_
    refine ar_icmp M_M_choose rfl rfl (fun hc => ?_) (fun hc => ?_)
    · have hc := c2_gt_t (a := i) (b := u) (by omega) (by omega) hc
      have hi2 : i = u + 1 := by omega
      rw [hi2] at h66 ⊢
      exact K h1 h560 h66 hF
    · have hc := c2_gt_f (a := i) (b := u) (by omega) (by omega) hc
      refine ar_go M_M_choose 1 _ 91 _ [some (.ref 56), some (.int (nI r)), x2, x3, none, some (.int (nI i))] _ [.ref 56] rfl ?_
      refine ar_get M_M_choose rfl rfl h56 rfl ?_
      refine ar_go M_M_choose 2 _ 97 _ [some (.ref 56), some (.int (nI r)), x2, x3, none, some (.int (nI i))] _ [.ref 56, .int (nI i), .ref 66] rfl ?_
      refine ar_get M_M_choose rfl rfl h56 rfl ?_
      refine ar_go M_M_choose 3 _ 104 _ [some (.ref 56), some (.int (nI r)), x2, x3, none, some (.int (nI i))] _ [.int (nI 34 * nI r), .ref 64, .int (nI i), .ref 66] rfl ?_
      refine ar_top (w := .int (nI (34 * r))) (congrArg Value.int (pk_mul 34 r)) ?_
      refine ar_go M_M_choose 2 _ 106 _ [some (.ref 56), some (.int (nI r)), x2, x3, none, some (.int (nI i))] _ [.int (nI (34 * r) + nI 0), .ref 64, .int (nI i), .ref 66] rfl ?_
      refine ar_top (w := .int (nI ((34 * r) + 0))) (congrArg Value.int (nI_add (34 * r) 0)) ?_
      refine ar_go M_M_choose 2 _ 109 _ [some (.ref 56), some (.int (nI r)), x2, x3, none, some (.int (nI i))] _ [.int (nI ((34 * r) + 0) + nI i), .ref 64, .int (nI i), .ref 66] rfl ?_
      refine ar_top (w := .int (nI (((34 * r) + 0) + i))) (congrArg Value.int (nI_add ((34 * r) + 0) i)) ?_
      refine ar_lald M_M_choose rfl h64 (vp_in_nI (by omega) (by decide)) ?_
      rw [nI_clamp (n := (((34 * r) + 0) + i)) (by omega)]
      refine ar_last M_M_choose rfl h66 (vp_in_nI (by omega) (by decide)) (fun h2 hf he => ?_)
      rw [nI_clamp (n := i) (by omega)] at he
      rw [updL_lN] at he
      have h56 := hf.at h56 (by simp only [List.mem_cons, List.not_mem_nil, or_false]; omega)
      have h64 := hf.at h64 (by simp only [List.mem_cons, List.not_mem_nil, or_false]; omega)
      have h66 : h2[66]? = some (.inl (1, 17, .inr (.inl (fun z9 => lN ((updN (mx (fun j => C (34 * r + 0 + j)) Ua i) i (C (((34 * r) + 0) + i))) z9))))) := he
      have e : updN (mx (fun j => C (34 * r + 0 + j)) Ua i) i (C (34 * r + 0 + i)) = mx (fun j => C (34 * r + 0 + j)) Ua (i + 1) := mx_up _ _ _
      rw [e] at h66
      refine ar_go M_M_choose 1 _ 114 _ [some (.ref 56), some (.int (nI r)), x2, x3, none, some (.int (nI i + Int32.ofInt 1))] _ [] rfl ?_
      rw [show nI i + Int32.ofInt 1 = nI (i + 1) from nI_add i 1]
      refine ar_go M_M_choose 1 _ 81 _ [some (.ref 56), some (.int (nI r)), x2, x3, none, some (.int (nI (i + 1)))] _ [] rfl ?_
      exact ih (i + 1) h2 (by omega) (by omega) h56 h66 (hF.tr hf (fun _ z => z) (fun _ z => z))
theorem c_M_ch_2 (X : am_X) (d : Nat) (h : am_H) {s : Int64} {ud ld nd tn : Int32} {pr : Int32} {C Wa : Nat → Nat} {u l r : Nat} {x2 x3 : Option Value} (hul : u ≤ 16 ∧ l ≤ 16) (hr : r < 18) (h64 : isLA h 64 612 C) {Q : Option Value → am_H → Prop} (K : ∀ h1 : am_H, isM0 h1 s ud ld pr (nI u) (nI l) nd tn → isLA h1 67 17 (mx (fun j => C (34 * r + 17 + j)) Wa (l + 1)) → fr [67] h h1 → ar Pg X d n_M_choose 157 [some (.ref 56), some (.int (nI r)), x2, x3, none, some (.int (nI (l + 1)))] [] h1 Q) : ∀ (n i : Nat) (h1 : am_H), l + 1 - i < n → i ≤ l + 1 → isM0 h1 s ud ld pr (nI u) (nI l) nd tn → isLA h1 67 17 (mx (fun j => C (34 * r + 17 + j)) Wa i) → fr [67] h h1 → ar Pg X d n_M_choose 120 [some (.ref 56), some (.int (nI r)), x2, x3, none, some (.int (nI i))] [] h1 Q := by
  intro n
  induction n with
  | zero => intro i h1 hi; omega
  | succ n ih =>
    intro i h1 hi hil h56 h67 hF
    have h64 : isLA h1 64 612 C := hF.at h64 (by simp)
    have h560 := h56
    unfold isM0 at h56
    unfold isLA at h64 h67
    refine ar_go M_M_choose 2 _ 123 _ [some (.ref 56), some (.int (nI r)), x2, x3, none, some (.int (nI i))] _ [.ref 56, .int (nI i)] rfl ?_
    refine ar_get M_M_choose rfl rfl h56 rfl ?_
    refine ar_icmp M_M_choose rfl rfl (fun hc => ?_) (fun hc => ?_)
    · have hc := c2_gt_t (a := i) (b := l) (by omega) (by omega) hc
      have hi2 : i = l + 1 := by omega
      rw [hi2] at h67 ⊢
      exact K h1 h560 h67 hF
    · have hc := c2_gt_f (a := i) (b := l) (by omega) (by omega) hc
      refine ar_go M_M_choose 1 _ 130 _ [some (.ref 56), some (.int (nI r)), x2, x3, none, some (.int (nI i))] _ [.ref 56] rfl ?_
      refine ar_get M_M_choose rfl rfl h56 rfl ?_
      refine ar_go M_M_choose 2 _ 136 _ [some (.ref 56), some (.int (nI r)), x2, x3, none, some (.int (nI i))] _ [.ref 56, .int (nI i), .ref 67] rfl ?_
      refine ar_get M_M_choose rfl rfl h56 rfl ?_
      refine ar_go M_M_choose 3 _ 143 _ [some (.ref 56), some (.int (nI r)), x2, x3, none, some (.int (nI i))] _ [.int (nI 34 * nI r), .ref 64, .int (nI i), .ref 67] rfl ?_
      refine ar_top (w := .int (nI (34 * r))) (congrArg Value.int (pk_mul 34 r)) ?_
      refine ar_go M_M_choose 2 _ 146 _ [some (.ref 56), some (.int (nI r)), x2, x3, none, some (.int (nI i))] _ [.int (nI (34 * r) + nI 17), .ref 64, .int (nI i), .ref 67] rfl ?_
      refine ar_top (w := .int (nI ((34 * r) + 17))) (congrArg Value.int (nI_add (34 * r) 17)) ?_
      refine ar_go M_M_choose 2 _ 149 _ [some (.ref 56), some (.int (nI r)), x2, x3, none, some (.int (nI i))] _ [.int (nI ((34 * r) + 17) + nI i), .ref 64, .int (nI i), .ref 67] rfl ?_
      refine ar_top (w := .int (nI (((34 * r) + 17) + i))) (congrArg Value.int (nI_add ((34 * r) + 17) i)) ?_
      refine ar_lald M_M_choose rfl h64 (vp_in_nI (by omega) (by decide)) ?_
      rw [nI_clamp (n := (((34 * r) + 17) + i)) (by omega)]
      refine ar_last M_M_choose rfl h67 (vp_in_nI (by omega) (by decide)) (fun h2 hf he => ?_)
      rw [nI_clamp (n := i) (by omega)] at he
      rw [updL_lN] at he
      have h56 := hf.at h56 (by simp only [List.mem_cons, List.not_mem_nil, or_false]; omega)
      have h64 := hf.at h64 (by simp only [List.mem_cons, List.not_mem_nil, or_false]; omega)
      have h67 : h2[67]? = some (.inl (1, 17, .inr (.inl (fun z9 => lN ((updN (mx (fun j => C (34 * r + 17 + j)) Wa i) i (C (((34 * r) + 17) + i))) z9))))) := he
      have e : updN (mx (fun j => C (34 * r + 17 + j)) Wa i) i (C (34 * r + 17 + i)) = mx (fun j => C (34 * r + 17 + j)) Wa (i + 1) := mx_up _ _ _
      rw [e] at h67
      refine ar_go M_M_choose 1 _ 154 _ [some (.ref 56), some (.int (nI r)), x2, x3, none, some (.int (nI i + Int32.ofInt 1))] _ [] rfl ?_
      rw [show nI i + Int32.ofInt 1 = nI (i + 1) from nI_add i 1]
      refine ar_go M_M_choose 1 _ 120 _ [some (.ref 56), some (.int (nI r)), x2, x3, none, some (.int (nI (i + 1)))] _ [] rfl ?_
      exact ih (i + 1) h2 (by omega) (by omega) h56 h67 (hF.tr hf (fun _ z => z) (fun _ z => z))
theorem c_M_ch_e (X : am_X) (d : Nat) (h : am_H) {s : Int64} {ud ld nd tn : Int32} {pr : Int32} {C Ua Wa : Nat → Nat} {u l r : Nat} {x2 x3 x5 : Option Value} (hul : u ≤ 16 ∧ l ≤ 16) (hr : r < 18) (h56 : isM0 h s ud ld pr (nI u) (nI l) nd tn) (h64 : isLA h 64 612 C) (h66 : isLA h 66 17 Ua) (h67 : isLA h 67 17 Wa) {Q : Option Value → am_H → Prop} (K : ∀ h1 : am_H, isM0 h1 s ud ld pr (nI u) (nI l) nd tn → isLA h1 66 17 (mx (fun j => C (34 * r + 0 + j)) Ua (u + 1)) → isLA h1 67 17 (mx (fun j => C (34 * r + 17 + j)) Wa (l + 1)) → fr [66, 67] h h1 → Q (some (.int 1)) h1) : ar Pg X d n_M_choose 78 [some (.ref 56), some (.int (nI r)), x2, x3, none, x5] [] h Q := by
  refine ar_go M_M_choose 2 _ 81 _ [some (.ref 56), some (.int (nI r)), x2, x3, none, some (.int (nI 0))] _ [] rfl ?_
  refine c_M_ch_1 X d h (Ua := Ua) hul hr h64 ?_ (u + 1 + 1) 0 h (by omega) (by omega) h56 (by rw [mx_0]; exact h66) (fr.rf _ _)
  intro h1 h561 h661 hF1
  refine ar_go M_M_choose 2 _ 120 _ [some (.ref 56), some (.int (nI r)), x2, x3, none, some (.int (nI 0))] _ [] rfl ?_
  refine c_M_ch_2 X d h1 (Wa := Wa) hul hr (hF1.at h64 (by simp)) ?_ (l + 1 + 1) 0 h1 (by omega) (by omega) h561 (by rw [mx_0]; exact hF1.at h67 (by simp)) (fr.rf _ _)
  intro h2 h562 h672 hF2
  refine ar_go M_M_choose 1 _ 158 _ [some (.ref 56), some (.int (nI r)), x2, x3, none, some (.int (nI (l + 1)))] _ [.int (nI 1)] rfl ?_
  exact ar_zret M_M_choose rfl rfl (Or.inr rfl) (K h2 h562 (hF2.at h661 (by simp)) h672 (hF1.tr hF2 (l := [66, 67]) (by simp) (by simp)))
theorem c_M_choose (X : am_X) (d : Nat) (h : am_H) {s : Int64} {ud ld nd tn : Int32} {A Ua Wa : Nat → Nat} {u l k : Nat} (hl : ltS A) (hul : u + l ≤ 16) (hk : k ≤ 18) (hk2 : 2 ≤ k) (hU : lt17 Ua) (hW : lt17 Wa) (h56 : isM0 h s ud ld (nI k) (nI u) (nI l) nd tn) (h64 : isLA h 64 612 A) (h66 : isLA h 66 17 Ua) (h67 : isLA h 67 17 Wa) : ar Pg X (d + 1 + 1 + 1) n_M_choose 0 [some (.ref 56), none, none, none, none, none] [] h (fun rr h' => fr [56, 64, 66, 67] h h' ∧ (∃ pr', isM0 h' s ud ld pr' (nI u) (nI l) nd tn) ∧ (∃ A', isLA h' 64 612 A' ∧ ltS A') ∧ ∃ Ua' Wa', isLA h' 66 17 Ua' ∧ lt17 Ua' ∧ isLA h' 67 17 Wa' ∧ lt17 Wa' ∧ (chR A u l k = none → rr = some (.int 0)) ∧ ∀ C, chR A u l k = some C → rr = some (.int 1) ∧ (∀ i, i ≤ u → Ua' i = C (34 * (k - 1) + i)) ∧ ∀ i, i ≤ l → Wa' i = C (34 * (k - 1) + (17 + i))) := by
  have h560 := h56
  have h640 := h64
  have h660 := h66
  have h670 := h67
  unfold isM0 at h56
  unfold isLA at h64
  refine ar_go M_M_choose 3 _ 3 _ [some (.ref 56), none, none, none, none, none] _ [.ref 56, .int (nI 0), .ref 56] rfl ?_
  refine ar_get M_M_choose rfl rfl h56 rfl ?_
  refine ar_go M_M_choose 1 _ 7 _ [some (.ref 56), none, none, none, none, none] _ [.int (nI 0 + nI u), .ref 56] rfl ?_
  refine ar_top (w := .int (nI u)) (congrArg Value.int ((nI_add 0 u).trans (congrArg nI (Nat.zero_add u)))) ?_
  refine ar_CV M_M_choose rfl rfl (Or.inl rfl) rfl rfl (Nat.le_of_ble_eq_true rfl) h56 M_M_lead (Nat.le_of_ble_eq_true rfl) (c_M_lead X d _ hl hk (c := u) (by omega) h560 h640) (fun r1 h1 hq => ?_)
  obtain ⟨hf1, hno, hso⟩ := hq
  refine ⟨hf1.1, ?_⟩
  cases hp : ldF A u k 0 with
  | none =>
    obtain ⟨rfl, h561, h641⟩ := hno hp
    show ar Pg _ _ _ 10 [some (.ref 56), none, none, none, none, none] [.int (-1)] _ _
    refine ar_go M_M_choose 2 _ 12 _ [some (.ref 56), some (.int (-1)), none, none, none, none] _ [.int (-1)] rfl ?_
    refine ar_if M_M_choose rfl rfl (fun z => absurd z (by decide)) (fun _ => ?_)
    refine ar_go M_M_choose 1 _ 16 _ [some (.ref 56), some (.int (-1)), none, none, none, none] _ [.int (nI 0)] rfl ?_
    exact ar_zret M_M_choose rfl rfl (Or.inl rfl) (⟨hf1.mono (by simp), ⟨_, h561⟩, ⟨_, h641, hl⟩, _, _, hf1.at h660 (by simp), hU, hf1.at h670 (by simp), hW, fun _ => rfl, fun C z => absurd z (by rw [chR, hp]; simp)⟩)
  | some p =>
    obtain ⟨rfl, h561, h641⟩ := hso p hp
    obtain ⟨_, hpk, hp0⟩ := ldF_lt A u k 0 p hp
    have hl1 := ldA_lt (c := u) (by omega) hl hk (show p < k by omega)
    have hch : chR A u l k = match ldF (ldA A u k p) (17 + l) (k - 1) 0 with
      | none => if (1 + 2147483647 - ldA A u k p (34 * (k - 1) + (17 + l))) % 2147483647 = 0 then some (ldA A u k p) else none
      | some q => some (tkA (ldA (ldA A u k p) (17 + l) (k - 1) q) (k - 1) (k - 2) ((0 + 2147483647 - (1 + 2147483647 - ldA (ldA A u k p) (17 + l) (k - 1) q (34 * (k - 1) + (17 + l))) % 2147483647) % 2147483647) 34) := by rw [chR, hp]; rfl
    generalize ldA A u k p = A1 at *
    show ar Pg _ _ _ 10 [some (.ref 56), none, none, none, none, none] [.int (nI (k - 1))] _ _
    refine ar_go M_M_choose 2 _ 12 _ [some (.ref 56), some (.int (nI (k - 1))), none, none, none, none] _ [.int (nI (k - 1))] rfl ?_
    refine ar_if M_M_choose rfl rfl (fun _ => ?_) (fun z => absurd (of_decide_eq_false z) (fun z => z (nI_nn (by omega))))
    have h562 := h561
    unfold isM0 at h562
    refine ar_go M_M_choose 3 _ 21 _ [some (.ref 56), some (.int (nI (k - 1))), none, none, none, none] _ [.ref 56, .int (nI 17), .ref 56] rfl ?_
    refine ar_get M_M_choose rfl rfl h562 rfl ?_
    refine ar_go M_M_choose 1 _ 25 _ [some (.ref 56), some (.int (nI (k - 1))), none, none, none, none] _ [.int (nI 17 + nI l), .ref 56] rfl ?_
    refine ar_top (w := .int (nI (17 + l))) (congrArg Value.int (nI_add 17 l)) ?_
    refine ar_CV M_M_choose rfl rfl (Or.inl rfl) rfl rfl (Nat.le_of_ble_eq_true rfl) h562 M_M_lead (Nat.le_of_ble_eq_true rfl) (c_M_lead X d _ hl1 (k := k - 1) (by omega) (c := 17 + l) (by omega) h561 h641) (fun r1 h2 hq => ?_)
    obtain ⟨hf2, hno2, hso2⟩ := hq
    refine ⟨hf2.1, ?_⟩
    have hF2 : fr [56, 64] h h2 := hf1.tr hf2 (fun _ z => z) (fun _ z => z)
    cases hp2 : ldF A1 (17 + l) (k - 1) 0 with
    | none =>
      obtain ⟨rfl, h562b, h642⟩ := hno2 hp2
      have h563 := h562b
      unfold isM0 at h563
      have h643 := h642
      unfold isLA at h643
      have hx := hl1 (34 * (k - 1) + (17 + l)) (by omega)
      show ar Pg _ _ _ 28 [some (.ref 56), some (.int (nI (k - 1))), none, none, none, none] [.int (-1)] _ _
      refine ar_go M_M_choose 3 _ 31 _ [some (.ref 56), some (.int (nI (k - 1))), some (.int (-1)), none, none, none] _ [.ref 56, .long (lN 1)] rfl ?_
      refine ar_get M_M_choose rfl rfl h563 rfl ?_
      refine ar_go M_M_choose 3 _ 38 _ [some (.ref 56), some (.int (nI (k - 1))), some (.int (-1)), none, none, none] _ [.int (nI 34 * nI (k - 1)), .ref 64, .long (lN 1)] rfl ?_
      refine ar_top (w := .int (nI (34 * (k - 1)))) (congrArg Value.int (pk_mul 34 (k - 1))) ?_
      refine ar_go M_M_choose 2 _ 41 _ [some (.ref 56), some (.int (nI (k - 1))), some (.int (-1)), none, none, none] _ [.int (nI (34 * (k - 1)) + nI 17), .ref 64, .long (lN 1)] rfl ?_
      refine ar_top (w := .int (nI ((34 * (k - 1)) + 17))) (congrArg Value.int (nI_add (34 * (k - 1)) 17)) ?_
      refine ar_go M_M_choose 1 _ 42 _ [some (.ref 56), some (.int (nI (k - 1))), some (.int (-1)), none, none, none] _ [.ref 56, .int (nI ((34 * (k - 1)) + 17)), .ref 64, .long (lN 1)] rfl ?_
      refine ar_get M_M_choose rfl rfl h563 rfl ?_
      refine ar_go M_M_choose 1 _ 46 _ [some (.ref 56), some (.int (nI (k - 1))), some (.int (-1)), none, none, none] _ [.int (nI ((34 * (k - 1)) + 17) + nI l), .ref 64, .long (lN 1)] rfl ?_
      refine ar_top (w := .int (nI (34 * (k - 1) + (17 + l)))) (congrArg Value.int ((nI_add _ _).trans (congrArg nI (by omega)))) ?_
      refine ar_lald M_M_choose rfl h643 (vp_in_nI (by omega) (by decide)) ?_
      rw [nI_clamp (n := (34 * (k - 1) + (17 + l))) (by omega)]
      refine ar_CS M_M_choose rfl rfl (Nat.le_of_ble_eq_true rfl) rfl rfl (Nat.le_of_ble_eq_true rfl) M_M_minus (Nat.le_of_ble_eq_true rfl) (c_M_minus X _ _ (by decide) hx) (fun r1 h1 hq => ?_)
      obtain ⟨rfl, rfl⟩ := hq
      refine ⟨rfl, ?_⟩
      show ar Pg _ _ _ 50 [some (.ref 56), some (.int (nI (k - 1))), some (.int (-1)), none, none, none] [.long (lN ((1 + 2147483647 - A1 (34 * (k - 1) + (17 + l))) % 2147483647))] _ _
      have hw0 : (1 + 2147483647 - A1 (34 * (k - 1) + (17 + l))) % 2147483647 < 2147483647 := Nat.mod_lt _ (by decide)
      rw [hp2] at hch
      dsimp only at hch
      generalize (1 + 2147483647 - A1 (34 * (k - 1) + (17 + l))) % 2147483647 = w0 at *
      refine ar_go M_M_choose 2 _ 52 _ [some (.ref 56), some (.int (nI (k - 1))), some (.int (-1)), some (.long (lN w0)), none, none] _ [.int (-1)] rfl ?_
      refine ar_if M_M_choose rfl rfl (fun z => absurd z (by decide)) (fun _ => ?_)
      refine ar_go M_M_choose 3 _ 58 _ [some (.ref 56), some (.int (nI (k - 1))), some (.int (-1)), some (.long (lN w0)), none, none] _ [.int (lg_cmp (lN w0) (lN 0))] rfl ?_
      refine ar_top (w := .int (if w0 = 0 then 0 else 1)) (congrArg Value.int (lcmp0 hw0)) ?_
      by_cases h0 : w0 = 0
      · rw [if_pos h0]
        rw [if_pos h0] at hch
        refine ar_if M_M_choose rfl rfl (fun _ => ?_) (fun z => absurd z (by decide))
        refine ar_go M_M_choose 1 _ 64 _ [some (.ref 56), some (.int (nI (k - 1))), some (.int (-1)), some (.long (lN w0)), none, none] _ [.int (-1)] rfl ?_
        refine ar_if M_M_choose rfl rfl (fun _ => ?_) (fun z => absurd z (by decide))
        refine c_M_ch_e X _ _ (Ua := Ua) (Wa := Wa) (C := A1) (u := u) (l := l) (r := k - 1) ⟨by omega, by omega⟩ (by omega) h562b h642 (hF2.at h660 (by simp)) (hF2.at h670 (by simp)) ?_
        intro h9 h569 h669 h679 hF9
        refine ⟨hF2.tr hF9 (l := [56, 64, 66, 67]) (by simp) (by simp), ⟨_, h569⟩, ⟨_, hF9.at h642 (by simp), hl1⟩, _, _, h669, mx_17 (fun i hi => hl1 _ (by omega)) hU _, h679, mx_17 (fun i hi => hl1 _ (by omega)) hW _, fun z => ?_, fun C2 z => ?_⟩
        · rw [hch] at z
          exact absurd z (by simp)
        · rw [hch] at z
          have hC2 := Option.some.inj z
          subst hC2
          refine ⟨rfl, fun i hi => ?_, fun i hi => ?_⟩
          · rw [mx_at (by omega), show 34 * (k - 1) + 0 + i = 34 * (k - 1) + i by omega]
          · rw [mx_at (by omega), show 34 * (k - 1) + 17 + i = 34 * (k - 1) + (17 + i) by omega]
      · rw [if_neg h0]
        rw [if_neg h0] at hch
        refine ar_if M_M_choose rfl rfl (fun z => absurd z (by decide)) (fun _ => ?_)
        refine ar_go M_M_choose 1 _ 62 _ [some (.ref 56), some (.int (nI (k - 1))), some (.int (-1)), some (.long (lN w0)), none, none] _ [.int (nI 0)] rfl ?_
        exact ar_zret M_M_choose rfl rfl (Or.inl rfl) (⟨hF2.mono (by simp), ⟨_, h562b⟩, ⟨_, h642, hl1⟩, _, _, hF2.at h660 (by simp), hU, hF2.at h670 (by simp), hW, fun _ => rfl, fun C z => absurd z (by rw [hch]; simp)⟩)
    | some q2 =>
      obtain ⟨rfl, h562b, h642⟩ := hso2 q2 hp2
      obtain ⟨_, hqk, hq0⟩ := ldF_lt A1 (17 + l) (k - 1) 0 q2 hp2
      have hl2 := ldA_lt (c := 17 + l) (by omega) hl1 (show k - 1 ≤ 18 by omega) (show q2 < k - 1 by omega)
      rw [hp2] at hch
      dsimp only at hch
      generalize ldA A1 (17 + l) (k - 1) q2 = A2 at *
      rw [show k - 1 - 1 = k - 2 by omega] at h562b ⊢
      have h563 := h562b
      unfold isM0 at h563
      have h643 := h642
      unfold isLA at h643
      have hx := hl2 (34 * (k - 1) + (17 + l)) (by omega)
      show ar Pg _ _ _ 28 [some (.ref 56), some (.int (nI (k - 1))), none, none, none, none] [.int (nI (k - 2))] _ _
      refine ar_go M_M_choose 3 _ 31 _ [some (.ref 56), some (.int (nI (k - 1))), some (.int (nI (k - 2))), none, none, none] _ [.ref 56, .long (lN 1)] rfl ?_
      refine ar_get M_M_choose rfl rfl h563 rfl ?_
      refine ar_go M_M_choose 3 _ 38 _ [some (.ref 56), some (.int (nI (k - 1))), some (.int (nI (k - 2))), none, none, none] _ [.int (nI 34 * nI (k - 1)), .ref 64, .long (lN 1)] rfl ?_
      refine ar_top (w := .int (nI (34 * (k - 1)))) (congrArg Value.int (pk_mul 34 (k - 1))) ?_
      refine ar_go M_M_choose 2 _ 41 _ [some (.ref 56), some (.int (nI (k - 1))), some (.int (nI (k - 2))), none, none, none] _ [.int (nI (34 * (k - 1)) + nI 17), .ref 64, .long (lN 1)] rfl ?_
      refine ar_top (w := .int (nI ((34 * (k - 1)) + 17))) (congrArg Value.int (nI_add (34 * (k - 1)) 17)) ?_
      refine ar_go M_M_choose 1 _ 42 _ [some (.ref 56), some (.int (nI (k - 1))), some (.int (nI (k - 2))), none, none, none] _ [.ref 56, .int (nI ((34 * (k - 1)) + 17)), .ref 64, .long (lN 1)] rfl ?_
      refine ar_get M_M_choose rfl rfl h563 rfl ?_
      refine ar_go M_M_choose 1 _ 46 _ [some (.ref 56), some (.int (nI (k - 1))), some (.int (nI (k - 2))), none, none, none] _ [.int (nI ((34 * (k - 1)) + 17) + nI l), .ref 64, .long (lN 1)] rfl ?_
      refine ar_top (w := .int (nI (34 * (k - 1) + (17 + l)))) (congrArg Value.int ((nI_add _ _).trans (congrArg nI (by omega)))) ?_
      refine ar_lald M_M_choose rfl h643 (vp_in_nI (by omega) (by decide)) ?_
      rw [nI_clamp (n := (34 * (k - 1) + (17 + l))) (by omega)]
      refine ar_CS M_M_choose rfl rfl (Nat.le_of_ble_eq_true rfl) rfl rfl (Nat.le_of_ble_eq_true rfl) M_M_minus (Nat.le_of_ble_eq_true rfl) (c_M_minus X _ _ (by decide) hx) (fun r1 h1 hq => ?_)
      obtain ⟨rfl, rfl⟩ := hq
      refine ⟨rfl, ?_⟩
      show ar Pg _ _ _ 50 [some (.ref 56), some (.int (nI (k - 1))), some (.int (nI (k - 2))), none, none, none] [.long (lN ((1 + 2147483647 - A2 (34 * (k - 1) + (17 + l))) % 2147483647))] _ _
      have hw0 : (1 + 2147483647 - A2 (34 * (k - 1) + (17 + l))) % 2147483647 < 2147483647 := Nat.mod_lt _ (by decide)
      generalize (1 + 2147483647 - A2 (34 * (k - 1) + (17 + l))) % 2147483647 = w0 at *
      refine ar_go M_M_choose 2 _ 52 _ [some (.ref 56), some (.int (nI (k - 1))), some (.int (nI (k - 2))), some (.long (lN w0)), none, none] _ [.int (nI (k - 2))] rfl ?_
      refine ar_if M_M_choose rfl rfl (fun _ => ?_) (fun z => absurd (of_decide_eq_false z) (fun z => z (nI_nn (by omega))))
      refine ar_go M_M_choose 1 _ 64 _ [some (.ref 56), some (.int (nI (k - 1))), some (.int (nI (k - 2))), some (.long (lN w0)), none, none] _ [.int (nI (k - 2))] rfl ?_
      refine ar_if M_M_choose rfl rfl (fun z => absurd (of_decide_eq_true z) (nI_pos (by omega))) (fun _ => ?_)
      refine ar_go M_M_choose 5 _ 72 _ [some (.ref 56), some (.int (nI (k - 1))), some (.int (nI (k - 2))), some (.long (lN w0)), none, none] _ [.long (lN w0), .long (lN 0), .int (nI (k - 2)), .int (nI (k - 1)), .ref 56] rfl ?_
      refine ar_CS M_M_choose rfl rfl (Nat.le_of_ble_eq_true rfl) rfl rfl (Nat.le_of_ble_eq_true rfl) M_M_minus (Nat.le_of_ble_eq_true rfl) (c_M_minus X _ _ (by decide) hw0) (fun r1 h1 hq => ?_)
      obtain ⟨rfl, rfl⟩ := hq
      refine ⟨rfl, ?_⟩
      show ar Pg _ _ _ 75 [some (.ref 56), some (.int (nI (k - 1))), some (.int (nI (k - 2))), some (.long (lN w0)), none, none] [.long (lN ((0 + 2147483647 - w0) % 2147483647)), .int (nI (k - 2)), .int (nI (k - 1)), .ref 56] _ _
      have hw1 : (0 + 2147483647 - w0) % 2147483647 < 2147483647 := Nat.mod_lt _ (by decide)
      refine ar_CV M_M_choose rfl rfl (Or.inl rfl) rfl rfl (Nat.le_of_ble_eq_true rfl) h563 M_M_take (Nat.le_of_ble_eq_true rfl) (c_M_take X (d + 1) _ hl2 (fm := k - 1) (pp := k - 2) (f := (0 + 2147483647 - w0) % 2147483647) (by omega) (by omega) (by omega) (by omega) h562b h642) (fun r1 h3 hq => ?_)
      obtain ⟨rfl, hf3, h644⟩ := hq
      refine ⟨hf3.1, ?_⟩
      show ar Pg _ _ _ 78 [some (.ref 56), some (.int (nI (k - 1))), some (.int (nI (k - 2))), some (.long (lN w0)), none, none] [] _ _
      have hF3 : fr [56, 64] h h3 := hF2.tr hf3 (fun _ z => z) (by simp)
      have hl3 := tkA_lt hl2 (k - 1) (k - 2) ((0 + 2147483647 - w0) % 2147483647) 34
      refine c_M_ch_e X _ _ (Ua := Ua) (Wa := Wa) (C := tkA A2 (k - 1) (k - 2) ((0 + 2147483647 - w0) % 2147483647) 34) (u := u) (l := l) (r := k - 1) ⟨by omega, by omega⟩ (by omega) (hf3.at h562b (by simp)) h644 (hF3.at h660 (by simp)) (hF3.at h670 (by simp)) ?_
      intro h9 h569 h669 h679 hF9
      refine ⟨hF3.tr hF9 (l := [56, 64, 66, 67]) (by simp) (by simp), ⟨_, h569⟩, ⟨_, hF9.at h644 (by simp), hl3⟩, _, _, h669, mx_17 (fun i hi => hl3 _ (by omega)) hU _, h679, mx_17 (fun i hi => hl3 _ (by omega)) hW _, fun z => ?_, fun C2 z => ?_⟩
      · rw [hch] at z
        exact absurd z (by simp)
      · rw [hch] at z
        have hC2 := Option.some.inj z
        subst hC2
        refine ⟨rfl, fun i hi => ?_, fun i hi => ?_⟩
        · rw [mx_at (by omega), show 34 * (k - 1) + 0 + i = 34 * (k - 1) + i by omega]
        · rw [mx_at (by omega), show 34 * (k - 1) + 17 + i = 34 * (k - 1) + (17 + i) by omega]
