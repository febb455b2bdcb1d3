/-! The reference: cancel -/
theorem c_M_cc_1 (X : am_X) (d : Nat) (h : am_H) {s : Int64} {ud ld pr nd tn : Int32} {Ua O0 : Nat → Nat} {u l : Nat} (hul : u ≤ 16 ∧ l ≤ 16) (h66 : isLA h 66 17 Ua) {Q : Option Value → am_H → Prop} (K : ∀ h1 : am_H, isM0 h1 s ud ld pr (nI u) (nI l) nd tn → isLA h1 68 17 (mx (pd u Ua) O0 17) → fr [68] h h1 → ar Pg X d n_M_cancel 42 [some (.ref 56), some (.int (nI 17))] [] h1 Q) : ∀ (n i : Nat) (h1 : am_H), 17 - i < n → i ≤ 17 → isM0 h1 s ud ld pr (nI u) (nI l) nd tn → isLA h1 68 17 (mx (pd u Ua) O0 i) → fr [68] h h1 → ar Pg X d n_M_cancel 6 [some (.ref 56), some (.int (nI i))] [] h1 Q := by
  intro n
  induction n with
  | zero => intro i h1 hi; omega
  | succ n ih =>
    intro i h1 hi hil h56 h68 hF
    have h66 : isLA h1 66 17 Ua := hF.at h66 (by simp)
    have h560 := h56
    unfold isM0 at h56
    unfold isLA at h66 h68
    refine ar_go M_M_cancel 2 _ 9 _ [some (.ref 56), some (.int (nI i))] _ [.int (nI 17), .int (nI i)] rfl ?_
    refine ar_icmp M_M_cancel rfl rfl (fun hc => ?_) (fun hc => ?_)
    · have hc := c2_ge_t (a := i) (b := 17) (by omega) (by omega) hc
      have hi2 : i = 17 := by omega
      subst hi2
      exact K h1 h560 h68 hF
    · have hc := c2_ge_f (a := i) (b := 17) (by omega) (by omega) hc
      refine ar_go M_M_cancel 1 _ 13 _ [some (.ref 56), some (.int (nI i))] _ [.ref 56] rfl ?_
      refine ar_get M_M_cancel rfl rfl h56 rfl ?_
      refine ar_go M_M_cancel 3 _ 19 _ [some (.ref 56), some (.int (nI i))] _ [.ref 56, .int (nI i), .int (nI i), .ref 68] rfl ?_
      refine ar_get M_M_cancel rfl rfl h56 rfl ?_
      refine ar_icmp M_M_cancel rfl rfl (fun hc2 => ?_) (fun hc2 => ?_)
      · have hc2 := c2_gt_t (a := i) (b := u) (by omega) (by omega) hc2
        refine ar_go M_M_cancel 1 _ 35 _ [some (.ref 56), some (.int (nI i))] _ [.long (lN 0), .int (nI i), .ref 68] rfl ?_
        refine ar_last M_M_cancel rfl h68 (vp_in_nI (by omega) (by decide)) (fun h2 hf he => ?_)
        rw [nI_clamp (n := i) (by omega)] at he
        rw [updL_lN] at he
        have h56 := hf.at h56 (by simp only [List.mem_cons, List.not_mem_nil, or_false]; omega)
        have h66 := hf.at h66 (by simp only [List.mem_cons, List.not_mem_nil, or_false]; omega)
        have h68 : h2[68]? = some (.inl (1, 17, .inr (.inl (fun z9 => lN ((updN (mx (pd u Ua) O0 i) i 0) z9))))) := he
        have e1 : updN (mx (pd u Ua) O0 i) i 0 = mx (pd u Ua) O0 (i + 1) := by rw [← mx_up, pd, if_neg (by omega)]
        rw [e1] at h68
        refine ar_go M_M_cancel 1 _ 39 _ [some (.ref 56), some (.int (nI i + Int32.ofInt 1))] _ [] rfl ?_
        rw [show nI i + Int32.ofInt 1 = nI (i + 1) from nI_add i 1]
        refine ar_go M_M_cancel 1 _ 6 _ [some (.ref 56), some (.int (nI (i + 1)))] _ [] rfl ?_
        exact ih (i + 1) h2 (by omega) (by omega) h56 h68 (hF.tr hf (fun _ z => z) (fun _ z => z))
      · have hc2 := c2_gt_f (a := i) (b := u) (by omega) (by omega) hc2
        refine ar_go M_M_cancel 1 _ 26 _ [some (.ref 56), some (.int (nI i))] _ [.ref 56, .int (nI i), .ref 68] rfl ?_
        refine ar_get M_M_cancel rfl rfl h56 rfl ?_
        refine ar_go M_M_cancel 1 _ 30 _ [some (.ref 56), some (.int (nI i))] _ [.int (nI i), .ref 66, .int (nI i), .ref 68] rfl ?_
        refine ar_lald M_M_cancel rfl h66 (vp_in_nI (by omega) (by decide)) ?_
        rw [nI_clamp (n := i) (by omega)]
        refine ar_go M_M_cancel 1 _ 35 _ [some (.ref 56), some (.int (nI i))] _ [.long (lN (Ua i)), .int (nI i), .ref 68] rfl ?_
        refine ar_last M_M_cancel rfl h68 (vp_in_nI (by omega) (by decide)) (fun h2 hf he => ?_)
        rw [nI_clamp (n := i) (by omega)] at he
        rw [updL_lN] at he
        have h56 := hf.at h56 (by simp only [List.mem_cons, List.not_mem_nil, or_false]; omega)
        have h66 := hf.at h66 (by simp only [List.mem_cons, List.not_mem_nil, or_false]; omega)
        have h68 : h2[68]? = some (.inl (1, 17, .inr (.inl (fun z9 => lN ((updN (mx (pd u Ua) O0 i) i (Ua i)) z9))))) := he
        have e1 : updN (mx (pd u Ua) O0 i) i (Ua i) = mx (pd u Ua) O0 (i + 1) := by rw [← mx_up, pd, if_pos (by omega)]
        rw [e1] at h68
        refine ar_go M_M_cancel 1 _ 39 _ [some (.ref 56), some (.int (nI i + Int32.ofInt 1))] _ [] rfl ?_
        rw [show nI i + Int32.ofInt 1 = nI (i + 1) from nI_add i 1]
        refine ar_go M_M_cancel 1 _ 6 _ [some (.ref 56), some (.int (nI (i + 1)))] _ [] rfl ?_
        exact ih (i + 1) h2 (by omega) (by omega) h56 h68 (hF.tr hf (fun _ z => z) (fun _ z => z))
theorem c_M_cc_3 (X : am_X) (d : Nat) (h : am_H) {s : Int64} {ud ld pr nd tn : Int32} {Wa O0 : Nat → Nat} {u l : Nat} (hul : u ≤ 16 ∧ l ≤ 16) (h67 : isLA h 67 17 Wa) {Q : Option Value → am_H → Prop} (K : ∀ h1 : am_H, isM0 h1 s ud ld pr (nI u) (nI l) nd tn → isLA h1 68 17 (mx (pd l Wa) O0 17) → fr [68] h h1 → ar Pg X d n_M_cancel 129 [some (.ref 56), some (.int (nI 17))] [] h1 Q) : ∀ (n i : Nat) (h1 : am_H), 17 - i < n → i ≤ 17 → isM0 h1 s ud ld pr (nI u) (nI l) nd tn → isLA h1 68 17 (mx (pd l Wa) O0 i) → fr [68] h h1 → ar Pg X d n_M_cancel 93 [some (.ref 56), some (.int (nI i))] [] h1 Q := by
  intro n
  induction n with
  | zero => intro i h1 hi; omega
  | succ n ih =>
    intro i h1 hi hil h56 h68 hF
    have h67 : isLA h1 67 17 Wa := hF.at h67 (by simp)
    have h560 := h56
    unfold isM0 at h56
    unfold isLA at h67 h68
    refine ar_go M_M_cancel 2 _ 96 _ [some (.ref 56), some (.int (nI i))] _ [.int (nI 17), .int (nI i)] rfl ?_
    refine ar_icmp M_M_cancel rfl rfl (fun hc => ?_) (fun hc => ?_)
    · have hc := c2_ge_t (a := i) (b := 17) (by omega) (by omega) hc
      have hi2 : i = 17 := by omega
      subst hi2
      exact K h1 h560 h68 hF
    · have hc := c2_ge_f (a := i) (b := 17) (by omega) (by omega) hc
      refine ar_go M_M_cancel 1 _ 100 _ [some (.ref 56), some (.int (nI i))] _ [.ref 56] rfl ?_
      refine ar_get M_M_cancel rfl rfl h56 rfl ?_
      refine ar_go M_M_cancel 3 _ 106 _ [some (.ref 56), some (.int (nI i))] _ [.ref 56, .int (nI i), .int (nI i), .ref 68] rfl ?_
      refine ar_get M_M_cancel rfl rfl h56 rfl ?_
      refine ar_icmp M_M_cancel rfl rfl (fun hc2 => ?_) (fun hc2 => ?_)
      · have hc2 := c2_gt_t (a := i) (b := l) (by omega) (by omega) hc2
        refine ar_go M_M_cancel 1 _ 122 _ [some (.ref 56), some (.int (nI i))] _ [.long (lN 0), .int (nI i), .ref 68] rfl ?_
        refine ar_last M_M_cancel rfl h68 (vp_in_nI (by omega) (by decide)) (fun h2 hf he => ?_)
        rw [nI_clamp (n := i) (by omega)] at he
        rw [updL_lN] at he
        have h56 := hf.at h56 (by simp only [List.mem_cons, List.not_mem_nil, or_false]; omega)
        have h67 := hf.at h67 (by simp only [List.mem_cons, List.not_mem_nil, or_false]; omega)
        have h68 : h2[68]? = some (.inl (1, 17, .inr (.inl (fun z9 => lN ((updN (mx (pd l Wa) O0 i) i 0) z9))))) := he
        have e1 : updN (mx (pd l Wa) O0 i) i 0 = mx (pd l Wa) O0 (i + 1) := by rw [← mx_up, pd, if_neg (by omega)]
        rw [e1] at h68
        refine ar_go M_M_cancel 1 _ 126 _ [some (.ref 56), some (.int (nI i + Int32.ofInt 1))] _ [] rfl ?_
        rw [show nI i + Int32.ofInt 1 = nI (i + 1) from nI_add i 1]
        refine ar_go M_M_cancel 1 _ 93 _ [some (.ref 56), some (.int (nI (i + 1)))] _ [] rfl ?_
        exact ih (i + 1) h2 (by omega) (by omega) h56 h68 (hF.tr hf (fun _ z => z) (fun _ z => z))
      · have hc2 := c2_gt_f (a := i) (b := l) (by omega) (by omega) hc2
        refine ar_go M_M_cancel 1 _ 113 _ [some (.ref 56), some (.int (nI i))] _ [.ref 56, .int (nI i), .ref 68] rfl ?_
        refine ar_get M_M_cancel rfl rfl h56 rfl ?_
        refine ar_go M_M_cancel 1 _ 117 _ [some (.ref 56), some (.int (nI i))] _ [.int (nI i), .ref 67, .int (nI i), .ref 68] rfl ?_
        refine ar_lald M_M_cancel rfl h67 (vp_in_nI (by omega) (by decide)) ?_
        rw [nI_clamp (n := i) (by omega)]
        refine ar_go M_M_cancel 1 _ 122 _ [some (.ref 56), some (.int (nI i))] _ [.long (lN (Wa i)), .int (nI i), .ref 68] rfl ?_
        refine ar_last M_M_cancel rfl h68 (vp_in_nI (by omega) (by decide)) (fun h2 hf he => ?_)
        rw [nI_clamp (n := i) (by omega)] at he
        rw [updL_lN] at he
        have h56 := hf.at h56 (by simp only [List.mem_cons, List.not_mem_nil, or_false]; omega)
        have h67 := hf.at h67 (by simp only [List.mem_cons, List.not_mem_nil, or_false]; omega)
        have h68 : h2[68]? = some (.inl (1, 17, .inr (.inl (fun z9 => lN ((updN (mx (pd l Wa) O0 i) i (Wa i)) z9))))) := he
        have e1 : updN (mx (pd l Wa) O0 i) i (Wa i) = mx (pd l Wa) O0 (i + 1) := by rw [← mx_up, pd, if_pos (by omega)]
        rw [e1] at h68
        refine ar_go M_M_cancel 1 _ 126 _ [some (.ref 56), some (.int (nI i + Int32.ofInt 1))] _ [] rfl ?_
        rw [show nI i + Int32.ofInt 1 = nI (i + 1) from nI_add i 1]
        refine ar_go M_M_cancel 1 _ 93 _ [some (.ref 56), some (.int (nI (i + 1)))] _ [] rfl ?_
        exact ih (i + 1) h2 (by omega) (by omega) h56 h68 (hF.tr hf (fun _ z => z) (fun _ z => z))
theorem c_M_cc_2 (X : am_X) (d : Nat) (h : am_H) {s : Int64} {ld pr nd tn : Int32} {T U0 : Nat → Nat} {u l e : Nat} (he : e ≤ 16) (h70 : isLA h 70 17 T) {Q : Option Value → am_H → Prop} (K : ∀ h1 : am_H, isM0 h1 s (nI e) ld pr (nI u) (nI l) nd tn → isLA h1 62 17 (mx T U0 (e + 1)) → fr [62] h h1 → ar Pg X d n_M_cancel 91 [some (.ref 56), some (.int (nI (e + 1)))] [] h1 Q) : ∀ (n i : Nat) (h1 : am_H), e + 1 - i < n → i ≤ e + 1 → isM0 h1 s (nI e) ld pr (nI u) (nI l) nd tn → isLA h1 62 17 (mx T U0 i) → fr [62] h h1 → ar Pg X d n_M_cancel 65 [some (.ref 56), some (.int (nI i))] [] h1 Q := by
  intro n
  induction n with
  | zero => intro i h1 hi; omega
  | succ n ih =>
    intro i h1 hi hil h56 h62 hF
    have h70 : isLA h1 70 17 T := hF.at h70 (by simp)
    have h560 := h56
    unfold isM0 at h56
    unfold isLA at h70 h62
    refine ar_go M_M_cancel 2 _ 67 _ [some (.ref 56), some (.int (nI i))] _ [.ref 56, .int (nI i)] rfl ?_
    refine ar_get M_M_cancel rfl rfl h56 rfl ?_
    refine ar_icmp M_M_cancel rfl rfl (fun hc => ?_) (fun hc => ?_)
    · have hc := c2_gt_t (a := i) (b := e) (by omega) (by omega) hc
      have hi2 : i = e + 1 := by omega
      subst hi2
      exact K h1 h560 h62 hF
    · have hc := c2_gt_f (a := i) (b := e) (by omega) (by omega) hc
      refine ar_go M_M_cancel 1 _ 74 _ [some (.ref 56), some (.int (nI i))] _ [.ref 56] rfl ?_
      refine ar_get M_M_cancel rfl rfl h56 rfl ?_
      refine ar_go M_M_cancel 2 _ 79 _ [some (.ref 56), some (.int (nI i))] _ [.ref 56, .int (nI i), .ref 62] rfl ?_
      refine ar_get M_M_cancel rfl rfl h56 rfl ?_
      refine ar_go M_M_cancel 1 _ 83 _ [some (.ref 56), some (.int (nI i))] _ [.int (nI i), .ref 70, .int (nI i), .ref 62] rfl ?_
      refine ar_lald M_M_cancel rfl h70 (vp_in_nI (by omega) (by decide)) ?_
      rw [nI_clamp (n := i) (by omega)]
      refine ar_last M_M_cancel rfl h62 (vp_in_nI (by omega) (by decide)) (fun h2 hf he => ?_)
      rw [nI_clamp (n := i) (by omega)] at he
      rw [updL_lN] at he
      have h56 := hf.at h56 (by simp only [List.mem_cons, List.not_mem_nil, or_false]; omega)
      have h70 := hf.at h70 (by simp only [List.mem_cons, List.not_mem_nil, or_false]; omega)
      have h62 : h2[62]? = some (.inl (1, 17, .inr (.inl (fun z9 => lN ((updN (mx T U0 i) i (T i)) z9))))) := he
      rw [mx_up] at h62
      refine ar_go M_M_cancel 1 _ 88 _ [some (.ref 56), some (.int (nI i + Int32.ofInt 1))] _ [] rfl ?_
      rw [show nI i + Int32.ofInt 1 = nI (i + 1) from nI_add i 1]
      refine ar_go M_M_cancel 1 _ 65 _ [some (.ref 56), some (.int (nI (i + 1)))] _ [] rfl ?_
      exact ih (i + 1) h2 (by omega) (by omega) h56 h62 (hF.tr hf (fun _ z => z) (fun _ z => z))
theorem c_M_cc_4 (X : am_X) (d : Nat) (h : am_H) {s : Int64} {ud pr nd tn : Int32} {T U0 : Nat → Nat} {u l e : Nat} (he : e ≤ 16) (h70 : isLA h 70 17 T) {Q : Option Value → am_H → Prop} (K : ∀ h1 : am_H, isM0 h1 s ud (nI e) pr (nI u) (nI l) nd tn → isLA h1 63 17 (mx T U0 (e + 1)) → fr [63] h h1 → ar Pg X d n_M_cancel 178 [some (.ref 56), some (.int (nI (e + 1)))] [] h1 Q) : ∀ (n i : Nat) (h1 : am_H), e + 1 - i < n → i ≤ e + 1 → isM0 h1 s ud (nI e) pr (nI u) (nI l) nd tn → isLA h1 63 17 (mx T U0 i) → fr [63] h h1 → ar Pg X d n_M_cancel 152 [some (.ref 56), some (.int (nI i))] [] h1 Q := by
  intro n
  induction n with
  | zero => intro i h1 hi; omega
  | succ n ih =>
    intro i h1 hi hil h56 h63 hF
    have h70 : isLA h1 70 17 T := hF.at h70 (by simp)
    have h560 := h56
    unfold isM0 at h56
    unfold isLA at h70 h63
    refine ar_go M_M_cancel 2 _ 154 _ [some (.ref 56), some (.int (nI i))] _ [.ref 56, .int (nI i)] rfl ?_
    refine ar_get M_M_cancel rfl rfl h56 rfl ?_
    refine ar_icmp M_M_cancel rfl rfl (fun hc => ?_) (fun hc => ?_)
    · have hc := c2_gt_t (a := i) (b := e) (by omega) (by omega) hc
      have hi2 : i = e + 1 := by omega
      subst hi2
      exact K h1 h560 h63 hF
    · have hc := c2_gt_f (a := i) (b := e) (by omega) (by omega) hc
      refine ar_go M_M_cancel 1 _ 161 _ [some (.ref 56), some (.int (nI i))] _ [.ref 56] rfl ?_
      refine ar_get M_M_cancel rfl rfl h56 rfl ?_
      refine ar_go M_M_cancel 2 _ 166 _ [some (.ref 56), some (.int (nI i))] _ [.ref 56, .int (nI i), .ref 63] rfl ?_
      refine ar_get M_M_cancel rfl rfl h56 rfl ?_
      refine ar_go M_M_cancel 1 _ 170 _ [some (.ref 56), some (.int (nI i))] _ [.int (nI i), .ref 70, .int (nI i), .ref 63] rfl ?_
      refine ar_lald M_M_cancel rfl h70 (vp_in_nI (by omega) (by decide)) ?_
      rw [nI_clamp (n := i) (by omega)]
      refine ar_last M_M_cancel rfl h63 (vp_in_nI (by omega) (by decide)) (fun h2 hf he => ?_)
      rw [nI_clamp (n := i) (by omega)] at he
      rw [updL_lN] at he
      have h56 := hf.at h56 (by simp only [List.mem_cons, List.not_mem_nil, or_false]; omega)
      have h70 := hf.at h70 (by simp only [List.mem_cons, List.not_mem_nil, or_false]; omega)
      have h63 : h2[63]? = some (.inl (1, 17, .inr (.inl (fun z9 => lN ((updN (mx T U0 i) i (T i)) z9))))) := he
      rw [mx_up] at h63
      refine ar_go M_M_cancel 1 _ 175 _ [some (.ref 56), some (.int (nI i + Int32.ofInt 1))] _ [] rfl ?_
      rw [show nI i + Int32.ofInt 1 = nI (i + 1) from nI_add i 1]
      refine ar_go M_M_cancel 1 _ 152 _ [some (.ref 56), some (.int (nI (i + 1)))] _ [] rfl ?_
      exact ih (i + 1) h2 (by omega) (by omega) h56 h63 (hF.tr hf (fun _ z => z) (fun _ z => z))
theorem c_M_cancel (X : am_X) (d : Nat) (h : am_H) {s : Int64} {ud ld pr nd tn : Int32} {Ua Wa O0 N0 T G U0 W0 : Nat → Nat} {u l q : Nat} (hul : u ≤ 16 ∧ l ≤ 16) (hU : lt17 Ua) (hW : lt17 Wa) (hO0 : lt17 O0) (hN0 : lt17 N0) (hT : lt17 T) (hW1 : Wa l = 1) (hcd : ceu (l + 1) u (mx (pd u Ua) O0 17) l (mx (pd l Wa) N0 17) T = (q, G)) (hqu : q ≤ u) (hql : q ≤ l) (hG : lt17 G) (h56 : isM0 h s ud ld pr (nI u) (nI l) nd tn) (h62 : isLA h 62 17 U0) (h63 : isLA h 63 17 W0) (h66 : isLA h 66 17 Ua) (h67 : isLA h 67 17 Wa) (h68 : isLA h 68 17 O0) (h69 : isLA h 69 17 N0) (h70 : isLA h 70 17 T) : ar Pg X (d + 1 + 1 + 1 + 1) n_M_cancel 0 [some (.ref 56), none] [] h (fun rr h' => rr = none ∧ fr [56, 62, 63, 68, 69, 70] h h' ∧ isM0 h' s (nI (u - q)) (nI (l - q)) pr (nI u) (nI l) (nI q) tn ∧ (∃ O1 T1 N1 T2, (∀ i, i < 17 → O1 i = pd u Ua i) ∧ (∀ i, i < 17 → N1 i = pd l Wa i) ∧ lt17 T1 ∧ lt17 T2 ∧ isLA h' 62 17 (mx (rdv G q (u + 1 - q) (O1, T1)).2 U0 (u - q + 1)) ∧ isLA h' 63 17 (mx (rdv G q (l + 1 - q) (N1, T2)).2 W0 (l - q + 1))) ∧ (∃ O', isLA h' 68 17 O' ∧ lt17 O') ∧ isLA h' 69 17 G ∧ ∃ T', isLA h' 70 17 T' ∧ lt17 T') := by
  have h560 := h56
  unfold isM0 at h56
  refine ar_go M_M_cancel 1 _ 1 _ [some (.ref 56), none] _ [.ref 56] rfl ?_
  refine ar_CV M_M_cancel rfl rfl (Or.inl rfl) rfl rfl (Nat.le_of_ble_eq_true rfl) h56 M_M_commonDivisor (Nat.le_of_ble_eq_true rfl) (c_M_commonDivisor X d _ hul hU hW hO0 hN0 hT hW1 h560 h66 h67 h68 h69 h70) (fun r1 h1 hq => ?_)
  obtain ⟨rfl, hf1, h561, h691, ⟨O1, h681, hO1⟩, ⟨T1, h701, hT1⟩⟩ := hq
  refine ⟨hf1.1, ?_⟩
  show ar Pg _ _ _ 4 [some (.ref 56), none] [] _ _
  rw [hcd] at h561 h691
  dsimp only at h561 h691
  refine ar_go M_M_cancel 2 _ 6 _ [some (.ref 56), some (.int (nI 0))] _ [] rfl ?_
  refine c_M_cc_1 X _ h1 (Ua := Ua) (O0 := O1) hul (hf1.at h66 (by simp)) ?_ 18 0 h1 (by omega) (by omega) h561 (by rw [mx_0]; exact h681) (fr.rf _ _)
  intro h2 h562 h682 hF2
  have h56 := h562
  unfold isM0 at h56
  have hm1 := mx_17 (pd_17 (u := u) hU) hO1 17
  refine ar_go M_M_cancel 2 _ 44 _ [some (.ref 56), some (.int (nI 17))] _ [.ref 56, .ref 56] rfl ?_
  refine ar_get M_M_cancel rfl rfl h56 rfl ?_
  refine ar_CV M_M_cancel rfl rfl (Or.inl rfl) rfl rfl (Nat.le_of_ble_eq_true rfl) h56 M_M_divide (Nat.le_of_ble_eq_true rfl) (c_M_divide X (d + 1 + 1) _ hm1 hG hT1 (D := u) (q := q) hqu hul.1 h562 h682 (hF2.at h691 (by simp)) (hF2.at h701 (by simp))) (fun r1 h3 hq => ?_)
  obtain ⟨rfl, hf3, h683, h703⟩ := hq
  refine ⟨hf3.1, ?_⟩
  show ar Pg _ _ _ 50 [some (.ref 56), some (.int (nI 17))] [] _ _
  have h56 := hf3.at h56 (by simp)
  have hr3 := rdv_17 (B := G) (q := q) (u + 1 - q) _ _ hm1 hT1 (by omega)
  refine ar_go M_M_cancel 2 _ 52 _ [some (.ref 56), some (.int (nI 17))] _ [.ref 56, .ref 56] rfl ?_
  refine ar_get M_M_cancel rfl rfl h56 rfl ?_
  refine ar_go M_M_cancel 1 _ 56 _ [some (.ref 56), some (.int (nI 17))] _ [.ref 56, .int (nI u), .ref 56] rfl ?_
  refine ar_get M_M_cancel rfl rfl h56 rfl ?_
  refine ar_go M_M_cancel 1 _ 60 _ [some (.ref 56), some (.int (nI 17))] _ [.int (nI u - nI q), .ref 56] rfl ?_
  refine ar_top (w := .int (nI (u - q))) (congrArg Value.int (pk_sub (by omega))) ?_
  refine ar_put M_M_cancel rfl rfl h56 (Nat.le_of_ble_eq_true rfl) rfl (Nat.le_of_ble_eq_true rfl) (fun h4 hf he => ?_)
  have h56 : h4[56]? = some (.inr (5, [.ref 57, .ref 58, .ref 59, .ref 60, .ref 61, .long s, .ref 62, .ref 63, .int (nI (u - q)), .int ld, .int pr, .ref 64, .ref 65, .ref 66, .ref 67, .int (nI u), .int (nI l), .ref 68, .ref 69, .ref 70, .int (nI q), .int tn, .ref 71, .ref 72, .ref 73, .ref 74, .ref 75])) := he
  have k4 := hf
  have h564 : isM0 h4 s (nI (u - q)) ld pr (nI u) (nI l) (nI q) tn := h56
  refine ar_go M_M_cancel 2 _ 65 _ [some (.ref 56), some (.int (nI 0))] _ [] rfl ?_
  refine c_M_cc_2 X _ h4 (U0 := U0) (e := u - q) (by omega) (k4.at h703 (by simp)) ?_ (u - q + 1 + 1) 0 h4 (by omega) (by omega) h564 (by rw [mx_0]; exact k4.at (hf3.at (hF2.at (hf1.at h62 (by simp)) (by simp)) (by simp)) (by simp)) (fr.rf _ _)
  intro h5 h565 h625 hF5
  refine ar_go M_M_cancel 2 _ 93 _ [some (.ref 56), some (.int (nI 0))] _ [] rfl ?_
  have hA5 : fr [56, 62, 68, 69, 70] h h5 := (((hf1.tr hF2 (l := [56, 62, 68, 69, 70]) (by simp) (by simp)).tr hf3 (l := [56, 62, 68, 69, 70]) (fun _ z => z) (by simp)).tr k4 (l := [56, 62, 68, 69, 70]) (fun _ z => z) (by simp)).tr hF5 (fun _ z => z) (by simp)
  have h695 : isLA h5 69 17 G := hF5.at (k4.at (hf3.at (hF2.at h691 (by simp)) (by simp)) (by simp)) (by simp)
  refine c_M_cc_3 X _ h5 (Wa := Wa) (O0 := (rdv G q (u + 1 - q) (mx (pd u Ua) O1 17, T1)).1) hul (hA5.at h67 (by simp)) ?_ 18 0 h5 (by omega) (by omega) h565 (by rw [mx_0]; exact hF5.at (k4.at h683 (by simp)) (by simp)) (fr.rf _ _)
  intro h6 h566 h686 hF6
  have h56 := h566
  unfold isM0 at h56
  have hm2 := mx_17 (pd_17 (u := l) hW) hr3.1 17
  refine ar_go M_M_cancel 2 _ 131 _ [some (.ref 56), some (.int (nI 17))] _ [.ref 56, .ref 56] rfl ?_
  refine ar_get M_M_cancel rfl rfl h56 rfl ?_
  refine ar_CV M_M_cancel rfl rfl (Or.inl rfl) rfl rfl (Nat.le_of_ble_eq_true rfl) h56 M_M_divide (Nat.le_of_ble_eq_true rfl) (c_M_divide X (d + 1 + 1) _ hm2 hG hr3.2 (D := l) (q := q) hql hul.2 h566 h686 (hF6.at h695 (by simp)) (hF6.at (hF5.at (k4.at h703 (by simp)) (by simp)) (by simp))) (fun r1 h7 hq => ?_)
  obtain ⟨rfl, hf7, h687, h707⟩ := hq
  refine ⟨hf7.1, ?_⟩
  show ar Pg _ _ _ 137 [some (.ref 56), some (.int (nI 17))] [] _ _
  have h56 := hf7.at h56 (by simp)
  have hr7 := rdv_17 (B := G) (q := q) (l + 1 - q) _ _ hm2 hr3.2 (by omega)
  refine ar_go M_M_cancel 2 _ 139 _ [some (.ref 56), some (.int (nI 17))] _ [.ref 56, .ref 56] rfl ?_
  refine ar_get M_M_cancel rfl rfl h56 rfl ?_
  refine ar_go M_M_cancel 1 _ 143 _ [some (.ref 56), some (.int (nI 17))] _ [.ref 56, .int (nI l), .ref 56] rfl ?_
  refine ar_get M_M_cancel rfl rfl h56 rfl ?_
  refine ar_go M_M_cancel 1 _ 147 _ [some (.ref 56), some (.int (nI 17))] _ [.int (nI l - nI q), .ref 56] rfl ?_
  refine ar_top (w := .int (nI (l - q))) (congrArg Value.int (pk_sub (by omega))) ?_
  refine ar_put M_M_cancel rfl rfl h56 (Nat.le_of_ble_eq_true rfl) rfl (Nat.le_of_ble_eq_true rfl) (fun h8 hf he => ?_)
  have h56 : h8[56]? = some (.inr (5, [.ref 57, .ref 58, .ref 59, .ref 60, .ref 61, .long s, .ref 62, .ref 63, .int (nI (u - q)), .int (nI (l - q)), .int pr, .ref 64, .ref 65, .ref 66, .ref 67, .int (nI u), .int (nI l), .ref 68, .ref 69, .ref 70, .int (nI q), .int tn, .ref 71, .ref 72, .ref 73, .ref 74, .ref 75])) := he
  have k8 := hf
  have h568 : isM0 h8 s (nI (u - q)) (nI (l - q)) pr (nI u) (nI l) (nI q) tn := h56
  refine ar_go M_M_cancel 2 _ 152 _ [some (.ref 56), some (.int (nI 0))] _ [] rfl ?_
  refine c_M_cc_4 X _ h8 (U0 := W0) (e := l - q) (by omega) (k8.at h707 (by simp)) ?_ (l - q + 1 + 1) 0 h8 (by omega) (by omega) h568 (by rw [mx_0]; exact k8.at (hf7.at (hF6.at (hA5.at h63 (by simp)) (by simp)) (by simp)) (by simp)) (fr.rf _ _)
  intro h9 h569 h639 hF9
  have hA9 : fr [56, 62, 63, 68, 69, 70] h h9 := (((hA5.tr hF6 (l := [56, 62, 63, 68, 69, 70]) (by simp) (by simp)).tr hf7 (l := [56, 62, 63, 68, 69, 70]) (fun _ z => z) (by simp)).tr k8 (l := [56, 62, 63, 68, 69, 70]) (fun _ z => z) (by simp)).tr hF9 (fun _ z => z) (by simp)
  exact ar_R M_M_cancel rfl rfl rfl rfl (⟨rfl, hA9, h569, ⟨mx (pd u Ua) O1 17, T1, mx (pd l Wa) (rdv G q (u + 1 - q) (mx (pd u Ua) O1 17, T1)).1 17, (rdv G q (u + 1 - q) (mx (pd u Ua) O1 17, T1)).2, fun i hi => mx_at hi, fun i hi => mx_at hi, hT1, hr3.2, hF9.at (k8.at (hf7.at (hF6.at h625 (by simp)) (by simp)) (by simp)) (by simp), h639⟩, ⟨_, hF9.at (k8.at h687 (by simp)) (by simp), hr7.1⟩, hF9.at (k8.at (hf7.at (hF6.at h695 (by simp)) (by simp)) (by simp)) (by simp), ⟨_, hF9.at (k8.at h707 (by simp)) (by simp), hr7.2⟩⟩)
