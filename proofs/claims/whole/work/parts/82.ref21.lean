/-! The reference: commonDivisor -/
theorem c_M_cd_1 (X : am_X) (d : Nat) (h : am_H) {s : Int64} {ud ld pr tn : Int32} {nd : Int32} {Ua Wa O0 N0 : Nat → Nat} {u l : Nat} (hul : u ≤ 16 ∧ l ≤ 16) (h66 : isLA h 66 17 Ua) (h67 : isLA h 67 17 Wa) {Q : Option Value → am_H → Prop} (K : ∀ h1 : am_H, isM0 h1 s ud ld pr (nI u) (nI l) nd tn → isLA h1 68 17 (mx (pd u Ua) O0 17) → isLA h1 69 17 (mx (pd l Wa) N0 17) → fr [68, 69] h h1 → ar Pg X d n_M_commonDivisor 62 [some (.ref 56), some (.int (nI 17)), none, none, none, none, none] [] h1 Q) : ∀ (n i : Nat) (h1 : am_H), 17 - i < n → i ≤ 17 → isM0 h1 s ud ld pr (nI u) (nI l) nd tn → isLA h1 68 17 (mx (pd u Ua) O0 i) → isLA h1 69 17 (mx (pd l Wa) N0 i) → fr [68, 69] h h1 → ar Pg X d n_M_commonDivisor 2 [some (.ref 56), some (.int (nI i)), none, none, none, none, none] [] h1 Q := by
  intro n
  induction n with
  | zero => intro i h1 hi; omega
  | succ n ih =>
    intro i h1 hi hil h56 h68 h69 hF
    have h66 : isLA h1 66 17 Ua := hF.at h66 (by simp)
    have h67 : isLA h1 67 17 Wa := hF.at h67 (by simp)
    have h560 := h56
    unfold isM0 at h56
    unfold isLA at h66 h67 h68 h69
    refine ar_go M_M_commonDivisor 2 _ 5 _ [some (.ref 56), some (.int (nI i)), none, none, none, none, none] _ [.int (nI 17), .int (nI i)] rfl ?_
    refine ar_icmp M_M_commonDivisor rfl rfl (fun hc => ?_) (fun hc => ?_)
    · have hc := c2_ge_t (a := i) (b := 17) (by omega) (by omega) hc
      have hi2 : i = 17 := by omega
      subst hi2
      exact K h1 h560 h68 h69 hF
    · have hc := c2_ge_f (a := i) (b := 17) (by omega) (by omega) hc
      refine ar_go M_M_commonDivisor 1 _ 9 _ [some (.ref 56), some (.int (nI i)), none, none, none, none, none] _ [.ref 56] rfl ?_
      refine ar_get M_M_commonDivisor rfl rfl h56 rfl ?_
      refine ar_go M_M_commonDivisor 3 _ 15 _ [some (.ref 56), some (.int (nI i)), none, none, none, none, none] _ [.ref 56, .int (nI i), .int (nI i), .ref 68] rfl ?_
      refine ar_get M_M_commonDivisor rfl rfl h56 rfl ?_
      refine ar_icmp M_M_commonDivisor rfl rfl (fun hc2 => ?_) (fun hc2 => ?_)
      · have hc2 := c2_gt_t (a := i) (b := u) (by omega) (by omega) hc2
        refine ar_go M_M_commonDivisor 1 _ 31 _ [some (.ref 56), some (.int (nI i)), none, none, none, none, none] _ [.long (lN 0), .int (nI i), .ref 68] rfl ?_
        refine ar_last M_M_commonDivisor rfl h68 (vp_in_nI (by omega) (by decide)) (fun h2 hf he => ?_)
        rw [nI_clamp (n := i) (by omega)] at he
        rw [updL_lN] at he
        have h56 := hf.at h56 (by simp only [List.mem_cons, List.not_mem_nil, or_false]; omega)
        have h66 := hf.at h66 (by simp only [List.mem_cons, List.not_mem_nil, or_false]; omega)
        have h67 := hf.at h67 (by simp only [List.mem_cons, List.not_mem_nil, or_false]; omega)
        have h69 := hf.at h69 (by simp only [List.mem_cons, List.not_mem_nil, or_false]; omega)
        have h68 : h2[68]? = some (.inl (1, 17, .inr (.inl (fun z9 => lN ((updN (mx (pd u Ua) O0 i) i 0) z9))))) := he
        have k1 := hf
        have e1 : updN (mx (pd u Ua) O0 i) i 0 = mx (pd u Ua) O0 (i + 1) := by rw [← mx_up, pd, if_neg (by omega)]
        rw [e1] at h68
        refine ar_go M_M_commonDivisor 1 _ 33 _ [some (.ref 56), some (.int (nI i)), none, none, none, none, none] _ [.ref 56] rfl ?_
        refine ar_get M_M_commonDivisor rfl rfl h56 rfl ?_
        refine ar_go M_M_commonDivisor 3 _ 39 _ [some (.ref 56), some (.int (nI i)), none, none, none, none, none] _ [.ref 56, .int (nI i), .int (nI i), .ref 69] rfl ?_
        refine ar_get M_M_commonDivisor rfl rfl h56 rfl ?_
        refine ar_icmp M_M_commonDivisor rfl rfl (fun hc3 => ?_) (fun hc3 => ?_)
        · have hc3 := c2_gt_t (a := i) (b := l) (by omega) (by omega) hc3
          refine ar_go M_M_commonDivisor 1 _ 55 _ [some (.ref 56), some (.int (nI i)), none, none, none, none, none] _ [.long (lN 0), .int (nI i), .ref 69] rfl ?_
          refine ar_last M_M_commonDivisor rfl h69 (vp_in_nI (by omega) (by decide)) (fun h3 hf he => ?_)
          rw [nI_clamp (n := i) (by omega)] at he
          rw [updL_lN] at he
          have h56 := hf.at h56 (by simp only [List.mem_cons, List.not_mem_nil, or_false]; omega)
          have h66 := hf.at h66 (by simp only [List.mem_cons, List.not_mem_nil, or_false]; omega)
          have h67 := hf.at h67 (by simp only [List.mem_cons, List.not_mem_nil, or_false]; omega)
          have h68 := hf.at h68 (by simp only [List.mem_cons, List.not_mem_nil, or_false]; omega)
          have h69 : h3[69]? = some (.inl (1, 17, .inr (.inl (fun z9 => lN ((updN (mx (pd l Wa) N0 i) i 0) z9))))) := he
          have k2 := hf
          have e2 : updN (mx (pd l Wa) N0 i) i 0 = mx (pd l Wa) N0 (i + 1) := by rw [← mx_up, pd, if_neg (by omega)]
          rw [e2] at h69
          refine ar_go M_M_commonDivisor 1 _ 59 _ [some (.ref 56), some (.int (nI i + Int32.ofInt 1)), none, none, none, none, none] _ [] rfl ?_
          rw [show nI i + Int32.ofInt 1 = nI (i + 1) from nI_add i 1]
          refine ar_go M_M_commonDivisor 1 _ 2 _ [some (.ref 56), some (.int (nI (i + 1))), none, none, none, none, none] _ [] rfl ?_
          exact ih (i + 1) h3 (by omega) (by omega) h56 h68 h69 (hF.tr (k1.tr k2 (l := [68, 69]) (by simp) (by simp)) (fun _ z => z) (fun _ z => z))
        · have hc3 := c2_gt_f (a := i) (b := l) (by omega) (by omega) hc3
          refine ar_go M_M_commonDivisor 1 _ 46 _ [some (.ref 56), some (.int (nI i)), none, none, none, none, none] _ [.ref 56, .int (nI i), .ref 69] rfl ?_
          refine ar_get M_M_commonDivisor rfl rfl h56 rfl ?_
          refine ar_go M_M_commonDivisor 1 _ 50 _ [some (.ref 56), some (.int (nI i)), none, none, none, none, none] _ [.int (nI i), .ref 67, .int (nI i), .ref 69] rfl ?_
          refine ar_lald M_M_commonDivisor rfl h67 (vp_in_nI (by omega) (by decide)) ?_
          rw [nI_clamp (n := i) (by omega)]
          refine ar_go M_M_commonDivisor 1 _ 55 _ [some (.ref 56), some (.int (nI i)), none, none, none, none, none] _ [.long (lN (Wa i)), .int (nI i), .ref 69] rfl ?_
          refine ar_last M_M_commonDivisor rfl h69 (vp_in_nI (by omega) (by decide)) (fun h3 hf he => ?_)
          rw [nI_clamp (n := i) (by omega)] at he
          rw [updL_lN] at he
          have h56 := hf.at h56 (by simp only [List.mem_cons, List.not_mem_nil, or_false]; omega)
          have h66 := hf.at h66 (by simp only [List.mem_cons, List.not_mem_nil, or_false]; omega)
          have h67 := hf.at h67 (by simp only [List.mem_cons, List.not_mem_nil, or_false]; omega)
          have h68 := hf.at h68 (by simp only [List.mem_cons, List.not_mem_nil, or_false]; omega)
          have h69 : h3[69]? = some (.inl (1, 17, .inr (.inl (fun z9 => lN ((updN (mx (pd l Wa) N0 i) i (Wa i)) z9))))) := he
          have k2 := hf
          have e2 : updN (mx (pd l Wa) N0 i) i (Wa i) = mx (pd l Wa) N0 (i + 1) := by rw [← mx_up, pd, if_pos (by omega)]
          rw [e2] at h69
          refine ar_go M_M_commonDivisor 1 _ 59 _ [some (.ref 56), some (.int (nI i + Int32.ofInt 1)), none, none, none, none, none] _ [] rfl ?_
          rw [show nI i + Int32.ofInt 1 = nI (i + 1) from nI_add i 1]
          refine ar_go M_M_commonDivisor 1 _ 2 _ [some (.ref 56), some (.int (nI (i + 1))), none, none, none, none, none] _ [] rfl ?_
          exact ih (i + 1) h3 (by omega) (by omega) h56 h68 h69 (hF.tr (k1.tr k2 (l := [68, 69]) (by simp) (by simp)) (fun _ z => z) (fun _ z => z))
      · have hc2 := c2_gt_f (a := i) (b := u) (by omega) (by omega) hc2
        refine ar_go M_M_commonDivisor 1 _ 22 _ [some (.ref 56), some (.int (nI i)), none, none, none, none, none] _ [.ref 56, .int (nI i), .ref 68] rfl ?_
        refine ar_get M_M_commonDivisor rfl rfl h56 rfl ?_
        refine ar_go M_M_commonDivisor 1 _ 26 _ [some (.ref 56), some (.int (nI i)), none, none, none, none, none] _ [.int (nI i), .ref 66, .int (nI i), .ref 68] rfl ?_
        refine ar_lald M_M_commonDivisor rfl h66 (vp_in_nI (by omega) (by decide)) ?_
        rw [nI_clamp (n := i) (by omega)]
        refine ar_go M_M_commonDivisor 1 _ 31 _ [some (.ref 56), some (.int (nI i)), none, none, none, none, none] _ [.long (lN (Ua i)), .int (nI i), .ref 68] rfl ?_
        refine ar_last M_M_commonDivisor rfl h68 (vp_in_nI (by omega) (by decide)) (fun h2 hf he => ?_)
        rw [nI_clamp (n := i) (by omega)] at he
        rw [updL_lN] at he
        have h56 := hf.at h56 (by simp only [List.mem_cons, List.not_mem_nil, or_false]; omega)
        have h66 := hf.at h66 (by simp only [List.mem_cons, List.not_mem_nil, or_false]; omega)
        have h67 := hf.at h67 (by simp only [List.mem_cons, List.not_mem_nil, or_false]; omega)
        have h69 := hf.at h69 (by simp only [List.mem_cons, List.not_mem_nil, or_false]; omega)
        have h68 : h2[68]? = some (.inl (1, 17, .inr (.inl (fun z9 => lN ((updN (mx (pd u Ua) O0 i) i (Ua i)) z9))))) := he
        have k1 := hf
        have e1 : updN (mx (pd u Ua) O0 i) i (Ua i) = mx (pd u Ua) O0 (i + 1) := by rw [← mx_up, pd, if_pos (by omega)]
        rw [e1] at h68
        refine ar_go M_M_commonDivisor 1 _ 33 _ [some (.ref 56), some (.int (nI i)), none, none, none, none, none] _ [.ref 56] rfl ?_
        refine ar_get M_M_commonDivisor rfl rfl h56 rfl ?_
        refine ar_go M_M_commonDivisor 3 _ 39 _ [some (.ref 56), some (.int (nI i)), none, none, none, none, none] _ [.ref 56, .int (nI i), .int (nI i), .ref 69] rfl ?_
        refine ar_get M_M_commonDivisor rfl rfl h56 rfl ?_
        refine ar_icmp M_M_commonDivisor rfl rfl (fun hc3 => ?_) (fun hc3 => ?_)
        · have hc3 := c2_gt_t (a := i) (b := l) (by omega) (by omega) hc3
          refine ar_go M_M_commonDivisor 1 _ 55 _ [some (.ref 56), some (.int (nI i)), none, none, none, none, none] _ [.long (lN 0), .int (nI i), .ref 69] rfl ?_
          refine ar_last M_M_commonDivisor rfl h69 (vp_in_nI (by omega) (by decide)) (fun h3 hf he => ?_)
          rw [nI_clamp (n := i) (by omega)] at he
          rw [updL_lN] at he
          have h56 := hf.at h56 (by simp only [List.mem_cons, List.not_mem_nil, or_false]; omega)
          have h66 := hf.at h66 (by simp only [List.mem_cons, List.not_mem_nil, or_false]; omega)
          have h67 := hf.at h67 (by simp only [List.mem_cons, List.not_mem_nil, or_false]; omega)
          have h68 := hf.at h68 (by simp only [List.mem_cons, List.not_mem_nil, or_false]; omega)
          have h69 : h3[69]? = some (.inl (1, 17, .inr (.inl (fun z9 => lN ((updN (mx (pd l Wa) N0 i) i 0) z9))))) := he
          have k2 := hf
          have e2 : updN (mx (pd l Wa) N0 i) i 0 = mx (pd l Wa) N0 (i + 1) := by rw [← mx_up, pd, if_neg (by omega)]
          rw [e2] at h69
          refine ar_go M_M_commonDivisor 1 _ 59 _ [some (.ref 56), some (.int (nI i + Int32.ofInt 1)), none, none, none, none, none] _ [] rfl ?_
          rw [show nI i + Int32.ofInt 1 = nI (i + 1) from nI_add i 1]
          refine ar_go M_M_commonDivisor 1 _ 2 _ [some (.ref 56), some (.int (nI (i + 1))), none, none, none, none, none] _ [] rfl ?_
          exact ih (i + 1) h3 (by omega) (by omega) h56 h68 h69 (hF.tr (k1.tr k2 (l := [68, 69]) (by simp) (by simp)) (fun _ z => z) (fun _ z => z))
        · have hc3 := c2_gt_f (a := i) (b := l) (by omega) (by omega) hc3
          refine ar_go M_M_commonDivisor 1 _ 46 _ [some (.ref 56), some (.int (nI i)), none, none, none, none, none] _ [.ref 56, .int (nI i), .ref 69] rfl ?_
          refine ar_get M_M_commonDivisor rfl rfl h56 rfl ?_
          refine ar_go M_M_commonDivisor 1 _ 50 _ [some (.ref 56), some (.int (nI i)), none, none, none, none, none] _ [.int (nI i), .ref 67, .int (nI i), .ref 69] rfl ?_
          refine ar_lald M_M_commonDivisor rfl h67 (vp_in_nI (by omega) (by decide)) ?_
          rw [nI_clamp (n := i) (by omega)]
          refine ar_go M_M_commonDivisor 1 _ 55 _ [some (.ref 56), some (.int (nI i)), none, none, none, none, none] _ [.long (lN (Wa i)), .int (nI i), .ref 69] rfl ?_
          refine ar_last M_M_commonDivisor rfl h69 (vp_in_nI (by omega) (by decide)) (fun h3 hf he => ?_)
          rw [nI_clamp (n := i) (by omega)] at he
          rw [updL_lN] at he
          have h56 := hf.at h56 (by simp only [List.mem_cons, List.not_mem_nil, or_false]; omega)
          have h66 := hf.at h66 (by simp only [List.mem_cons, List.not_mem_nil, or_false]; omega)
          have h67 := hf.at h67 (by simp only [List.mem_cons, List.not_mem_nil, or_false]; omega)
          have h68 := hf.at h68 (by simp only [List.mem_cons, List.not_mem_nil, or_false]; omega)
          have h69 : h3[69]? = some (.inl (1, 17, .inr (.inl (fun z9 => lN ((updN (mx (pd l Wa) N0 i) i (Wa i)) z9))))) := he
          have k2 := hf
          have e2 : updN (mx (pd l Wa) N0 i) i (Wa i) = mx (pd l Wa) N0 (i + 1) := by rw [← mx_up, pd, if_pos (by omega)]
          rw [e2] at h69
          refine ar_go M_M_commonDivisor 1 _ 59 _ [some (.ref 56), some (.int (nI i + Int32.ofInt 1)), none, none, none, none, none] _ [] rfl ?_
          rw [show nI i + Int32.ofInt 1 = nI (i + 1) from nI_add i 1]
          refine ar_go M_M_commonDivisor 1 _ 2 _ [some (.ref 56), some (.int (nI (i + 1))), none, none, none, none, none] _ [] rfl ?_
          exact ih (i + 1) h3 (by omega) (by omega) h56 h68 h69 (hF.tr (k1.tr k2 (l := [68, 69]) (by simp) (by simp)) (fun _ z => z) (fun _ z => z))
theorem c_M_cd_2 (X : am_X) (d : Nat) (h : am_H) {s : Int64} {ud ld pr tn : Int32} {O N : Nat → Nat} {u l D r : Nat} {Q : Option Value → am_H → Prop} (K : ∀ (h1 : am_H) (x5 : Option Value), isM0 h1 s ud ld pr (nI u) (nI l) (nI D) tn → isLA h1 68 17 (mx N O 17) → isLA h1 69 17 (mx O N 17) → fr [68, 69] h h1 → ar Pg X d n_M_commonDivisor 166 [some (.ref 56), some (.int (nI D)), some (.int (nI 1)), some (.int (nI r)), some (.int (nI 17)), x5, none] [] h1 Q) : ∀ (n i : Nat) (h1 : am_H) (x5 : Option Value), 17 - i < n → i ≤ 17 → isM0 h1 s ud ld pr (nI u) (nI l) (nI D) tn → isLA h1 68 17 (mx N O i) → isLA h1 69 17 (mx O N i) → fr [68, 69] h h1 → ar Pg X d n_M_commonDivisor 121 [some (.ref 56), some (.int (nI D)), some (.int (nI 1)), some (.int (nI r)), some (.int (nI i)), x5, none] [] h1 Q := by
  intro n
  induction n with
  | zero => intro i h1 x5 hi; omega
  | succ n ih =>
    intro i h1 x5 hi hil h56 h68 h69 hF
    have h560 := h56
    unfold isM0 at h56
    unfold isLA at h68 h69
    refine ar_go M_M_commonDivisor 2 _ 125 _ [some (.ref 56), some (.int (nI D)), some (.int (nI 1)), some (.int (nI r)), some (.int (nI i)), x5, none] _ [.int (nI 17), .int (nI i)] rfl ?_
    refine ar_icmp M_M_commonDivisor rfl rfl (fun hc => ?_) (fun hc => ?_)
    · have hc := c2_ge_t (a := i) (b := 17) (by omega) (by omega) hc
      have hi2 : i = 17 := by omega
      subst hi2
      exact K h1 x5 h560 h68 h69 hF
    · have hc := c2_ge_f (a := i) (b := 17) (by omega) (by omega) hc
      refine ar_go M_M_commonDivisor 1 _ 129 _ [some (.ref 56), some (.int (nI D)), some (.int (nI 1)), some (.int (nI r)), some (.int (nI i)), x5, none] _ [.ref 56] rfl ?_
      refine ar_get M_M_commonDivisor rfl rfl h56 rfl ?_
      refine ar_go M_M_commonDivisor 1 _ 134 _ [some (.ref 56), some (.int (nI D)), some (.int (nI 1)), some (.int (nI r)), some (.int (nI i)), x5, none] _ [.int (nI i), .ref 68] rfl ?_
      refine ar_lald M_M_commonDivisor rfl h68 (vp_in_nI (by omega) (by decide)) ?_
      rw [nI_clamp (n := i) (by omega)]
      refine ar_top (w := .long (lN (O i))) (congrArg Value.long (congrArg lN (mx_ge (Nat.le_refl _)))) ?_
      refine ar_go M_M_commonDivisor 2 _ 138 _ [some (.ref 56), some (.int (nI D)), some (.int (nI 1)), some (.int (nI r)), some (.int (nI i)), some (.long (lN (O i))), none] _ [.ref 56] rfl ?_
      refine ar_get M_M_commonDivisor rfl rfl h56 rfl ?_
      refine ar_go M_M_commonDivisor 2 _ 144 _ [some (.ref 56), some (.int (nI D)), some (.int (nI 1)), some (.int (nI r)), some (.int (nI i)), some (.long (lN (O i))), none] _ [.ref 56, .int (nI i), .ref 68] rfl ?_
      refine ar_get M_M_commonDivisor rfl rfl h56 rfl ?_
      refine ar_go M_M_commonDivisor 1 _ 149 _ [some (.ref 56), some (.int (nI D)), some (.int (nI 1)), some (.int (nI r)), some (.int (nI i)), some (.long (lN (O i))), none] _ [.int (nI i), .ref 69, .int (nI i), .ref 68] rfl ?_
      refine ar_lald M_M_commonDivisor rfl h69 (vp_in_nI (by omega) (by decide)) ?_
      rw [nI_clamp (n := i) (by omega)]
      refine ar_top (w := .long (lN (N i))) (congrArg Value.long (congrArg lN (mx_ge (Nat.le_refl _)))) ?_
      refine ar_last M_M_commonDivisor rfl h68 (vp_in_nI (by omega) (by decide)) (fun h2 hf he => ?_)
      rw [nI_clamp (n := i) (by omega)] at he
      rw [updL_lN] at he
      have h56 := hf.at h56 (by simp only [List.mem_cons, List.not_mem_nil, or_false]; omega)
      have h69 := hf.at h69 (by simp only [List.mem_cons, List.not_mem_nil, or_false]; omega)
      have h68 : h2[68]? = some (.inl (1, 17, .inr (.inl (fun z9 => lN ((updN (mx N O i) i (N i)) z9))))) := he
      have k1 := hf
      rw [mx_up] at h68
      refine ar_go M_M_commonDivisor 1 _ 152 _ [some (.ref 56), some (.int (nI D)), some (.int (nI 1)), some (.int (nI r)), some (.int (nI i)), some (.long (lN (O i))), none] _ [.ref 56] rfl ?_
      refine ar_get M_M_commonDivisor rfl rfl h56 rfl ?_
      refine ar_go M_M_commonDivisor 2 _ 159 _ [some (.ref 56), some (.int (nI D)), some (.int (nI 1)), some (.int (nI r)), some (.int (nI i)), some (.long (lN (O i))), none] _ [.long (lN (O i)), .int (nI i), .ref 69] rfl ?_
      refine ar_last M_M_commonDivisor rfl h69 (vp_in_nI (by omega) (by decide)) (fun h3 hf he => ?_)
      rw [nI_clamp (n := i) (by omega)] at he
      rw [updL_lN] at he
      have h56 := hf.at h56 (by simp only [List.mem_cons, List.not_mem_nil, or_false]; omega)
      have h68 := hf.at h68 (by simp only [List.mem_cons, List.not_mem_nil, or_false]; omega)
      have h69 : h3[69]? = some (.inl (1, 17, .inr (.inl (fun z9 => lN ((updN (mx O N i) i (O i)) z9))))) := he
      have k2 := hf
      rw [mx_up] at h69
      refine ar_go M_M_commonDivisor 1 _ 163 _ [some (.ref 56), some (.int (nI D)), some (.int (nI 1)), some (.int (nI r)), some (.int (nI i + Int32.ofInt 1)), some (.long (lN (O i))), none] _ [] rfl ?_
      rw [show nI i + Int32.ofInt 1 = nI (i + 1) from nI_add i 1]
      refine ar_go M_M_commonDivisor 1 _ 121 _ [some (.ref 56), some (.int (nI D)), some (.int (nI 1)), some (.int (nI r)), some (.int (nI (i + 1))), some (.long (lN (O i))), none] _ [] rfl ?_
      exact ih (i + 1) h3 _ (by omega) (by omega) h56 h68 h69 (hF.tr (k1.tr k2 (l := [68, 69]) (by simp) (by simp)) (fun _ z => z) (fun _ z => z))
theorem c_M_cd_3 (X : am_X) (d : Nat) (h0 : am_H) {s : Int64} {ud ld pr tn : Int32} {u l : Nat} : ∀ (n dg : Nat) (O : Nat → Nat) (ud1 : Nat) (N T : Nat → Nat) (h1 : am_H) (x3 x4 x5 : Option Value), lt17 O → lt17 N → lt17 T → dg ≤ 16 → ud1 ≤ 16 → (∀ i, dg < i → i < 17 → O i = 0) → (∀ i, ud1 < i → i < 17 → N i = 0) → N ud1 = 1 → ud1 < n → isM0 h1 s ud ld pr (nI u) (nI l) (nI ud1) tn → isLA h1 68 17 O → isLA h1 69 17 N → isLA h1 70 17 T → fr [56, 68, 69, 70] h0 h1 → ar Pg X (d + 1 + 1 + 1) n_M_commonDivisor 77 [some (.ref 56), some (.int (nI dg)), some (.int (nI 1)), x3, x4, x5, none] [] h1 (fun rr h' => rr = none ∧ fr [56, 68, 69, 70] h0 h' ∧ isM0 h' s ud ld pr (nI u) (nI l) (nI (ceu n dg O ud1 N T).1) tn ∧ isLA h' 69 17 (ceu n dg O ud1 N T).2 ∧ (∃ O', isLA h' 68 17 O' ∧ lt17 O') ∧ ∃ T', isLA h' 70 17 T' ∧ lt17 T') := by
  intro n
  induction n with
  | zero => intro dg O ud1 N T h1 x3 x4 x5 _ _ _ _ _ _ _ _ hz; omega
  | succ n ih =>
    intro dg O ud1 N T h1 x3 x4 x5 hO hN hT hd hu hz hNz hN1 hun h56 h68 h69 h70 hF
    have h560 := h56
    unfold isM0 at h56
    refine ar_go M_M_commonDivisor 1 _ 78 _ [some (.ref 56), some (.int (nI dg)), some (.int (nI 1)), x3, x4, x5, none] _ [.int (nI 1)] rfl ?_
    refine ar_if M_M_commonDivisor rfl rfl (fun z => absurd z (by decide)) (fun _ => ?_)
    have hC := cq_17 (ud := ud1) (N := N) hd hO hT
    obtain ⟨htr, _⟩ := cq_ok (T := T) hd hu hz hN1
    refine ar_go M_M_commonDivisor 2 _ 83 _ [some (.ref 56), some (.int (nI dg)), some (.int (nI 1)), x3, x4, x5, none] _ [.ref 56, .int (nI dg)] rfl ?_
    refine ar_get M_M_commonDivisor rfl rfl h56 rfl ?_
    have hgo : ∀ h2 : am_H, isM0 h2 s ud ld pr (nI u) (nI l) (nI ud1) tn → isLA h2 68 17 (cq dg ud1 O N T).1 → isLA h2 69 17 N → isLA h2 70 17 (cq dg ud1 O N T).2 → fr [56, 68, 69, 70] h0 h2 → ar Pg X (d + 1 + 1 + 1) n_M_commonDivisor 94 [some (.ref 56), some (.int (nI dg)), some (.int (nI 1)), x3, x4, x5, none] [] h2 (fun rr h' => rr = none ∧ fr [56, 68, 69, 70] h0 h' ∧ isM0 h' s ud ld pr (nI u) (nI l) (nI (ceu (n + 1) dg O ud1 N T).1) tn ∧ isLA h' 69 17 (ceu (n + 1) dg O ud1 N T).2 ∧ (∃ O', isLA h' 68 17 O' ∧ lt17 O') ∧ ∃ T', isLA h' 70 17 T' ∧ lt17 T') := by
        intro h2 h56 h68 h69 h70 hF2
        have h560 := h56
        unfold isM0 at h56
        rw [ceu]
        generalize cq dg ud1 O N T = C at *
        refine ar_go M_M_commonDivisor 1 _ 95 _ [some (.ref 56), some (.int (nI dg)), some (.int (nI 1)), x3, x4, x5, none] _ [.ref 56] rfl ?_
        refine ar_CV M_M_commonDivisor rfl rfl (Or.inl rfl) rfl rfl (Nat.le_of_ble_eq_true rfl) h56 M_M_left (Nat.le_of_ble_eq_true rfl) (c_M_left X _ _ h560 h68 hC.1) (fun r1 h1 hq => ?_)
        obtain ⟨rfl, rfl⟩ := hq
        refine ⟨rfl, ?_⟩
        show ar Pg _ _ _ 98 [some (.ref 56), some (.int (nI dg)), some (.int (nI 1)), x3, x4, x5, none] [.int (dI (trm C.1 17))] _ _
        have ht17 := trm_le C.1 17
        have htt := trm_top C.1 17
        have htz := trm_z C.1 17
        by_cases h0t : trm C.1 17 = 0
        · rw [h0t, if_pos rfl]
          show ar Pg _ _ _ 98 [some (.ref 56), some (.int (nI dg)), some (.int (nI 1)), x3, x4, x5, none] [.int (-1)] _ _
          refine ar_go M_M_commonDivisor 2 _ 100 _ [some (.ref 56), some (.int (nI dg)), some (.int (nI 1)), some (.int (-1)), x4, x5, none] _ [.int (-1)] rfl ?_
          refine ar_if M_M_commonDivisor rfl rfl (fun _ => ?_) (fun z => absurd z (by decide))
          refine ar_go M_M_commonDivisor 3 _ 110 _ [some (.ref 56), some (.int (nI dg)), some (.int (nI 0)), some (.int (-1)), x4, x5, none] _ [.int (nI 0)] rfl ?_
          refine ar_if M_M_commonDivisor rfl rfl (fun _ => ?_) (fun z => absurd z (by decide))
          refine ar_go M_M_commonDivisor 2 _ 78 _ [some (.ref 56), some (.int (nI dg)), some (.int (nI 0)), some (.int (-1)), x4, x5, none] _ [.int (nI 0)] rfl ?_
          refine ar_if M_M_commonDivisor rfl rfl (fun _ => ?_) (fun z => absurd z (by decide))
          exact ar_R M_M_commonDivisor rfl rfl rfl rfl (⟨rfl, hF2, h560, h69, ⟨_, h68, hC.1⟩, ⟨_, h70, hC.2⟩⟩)
        · rw [if_neg h0t]
          obtain ⟨r, hr⟩ : ∃ r, trm C.1 17 = r + 1 := ⟨trm C.1 17 - 1, by omega⟩
          rw [hr] at htt htz htr ht17 ⊢
          rw [show r + 1 - 1 = r by omega] at htt ⊢
          show ar Pg _ _ _ 98 [some (.ref 56), some (.int (nI dg)), some (.int (nI 1)), x3, x4, x5, none] [.int (nI r)] _ _
          refine ar_go M_M_commonDivisor 2 _ 100 _ [some (.ref 56), some (.int (nI dg)), some (.int (nI 1)), some (.int (nI r)), x4, x5, none] _ [.int (nI r)] rfl ?_
          refine ar_if M_M_commonDivisor rfl rfl (fun z => absurd (of_decide_eq_true z) (nI_pos (by omega))) (fun _ => ?_)
          refine ar_go M_M_commonDivisor 4 _ 110 _ [some (.ref 56), some (.int (nI dg)), some (.int (nI 1)), some (.int (nI r)), x4, x5, none] _ [.int (nI 1)] rfl ?_
          refine ar_if M_M_commonDivisor rfl rfl (fun z => absurd z (by decide)) (fun _ => ?_)
          refine ar_go M_M_commonDivisor 1 _ 114 _ [some (.ref 56), some (.int (nI dg)), some (.int (nI 1)), some (.int (nI r)), x4, x5, none] _ [.ref 56] rfl ?_
          refine ar_get M_M_commonDivisor rfl rfl h56 rfl ?_
          refine ar_go M_M_commonDivisor 3 _ 121 _ [some (.ref 56), some (.int (nI ud1)), some (.int (nI 1)), some (.int (nI r)), some (.int (nI 0)), x5, none] _ [] rfl ?_
          refine c_M_cd_2 X _ _ (O := C.1) (N := N) (D := ud1) (r := r) ?_ 18 0 _ x5 (by omega) (by omega) h560 (by rw [mx_0]; exact h68) (by rw [mx_0]; exact h69) (fr.rf _ _)
          intro h3 x5b h563 h683 h693 hF3
          have h56 := h563
          unfold isM0 at h56
          refine ar_go M_M_commonDivisor 2 _ 168 _ [some (.ref 56), some (.int (nI ud1)), some (.int (nI 1)), some (.int (nI r)), some (.int (nI 17)), x5b, none] _ [.int (nI r), .ref 56] rfl ?_
          refine ar_put M_M_commonDivisor rfl rfl h56 (Nat.le_of_ble_eq_true rfl) rfl (Nat.le_of_ble_eq_true rfl) (fun h4 hf he => ?_)
          have h56 : h4[56]? = some (.inr (5, [.ref 57, .ref 58, .ref 59, .ref 60, .ref 61, .long s, .ref 62, .ref 63, .int ud, .int ld, .int pr, .ref 64, .ref 65, .ref 66, .ref 67, .int (nI u), .int (nI l), .ref 68, .ref 69, .ref 70, .int (nI r), .int tn, .ref 71, .ref 72, .ref 73, .ref 74, .ref 75])) := he
          have k4 := hf
          have h564 : isM0 h4 s ud ld pr (nI u) (nI l) (nI r) tn := h56
          have hD17 := mx_17 hC.1 hN 17
          refine ar_go M_M_commonDivisor 1 _ 172 _ [some (.ref 56), some (.int (nI ud1)), some (.int (nI 1)), some (.int (nI r)), some (.int (nI 17)), x5b, none] _ [.ref 56] rfl ?_
          refine ar_CV M_M_commonDivisor rfl rfl (Or.inl rfl) rfl rfl (Nat.le_of_ble_eq_true rfl) h56 M_M_makePlain (Nat.le_of_ble_eq_true rfl) (c_M_makePlain X _ _ hD17 (q := r) (by omega) h564 (k4.at h693 (by simp))) (fun r1 h5 hq => ?_)
          obtain ⟨rfl, hf5, h695⟩ := hq
          refine ⟨hf5.1, ?_⟩
          show ar Pg _ _ _ 175 [some (.ref 56), some (.int (nI ud1)), some (.int (nI 1)), some (.int (nI r)), some (.int (nI 17)), x5b, none] [] _ _
          refine ar_go M_M_commonDivisor 1 _ 77 _ [some (.ref 56), some (.int (nI ud1)), some (.int (nI 1)), some (.int (nI r)), some (.int (nI 17)), x5b, none] _ [] rfl ?_
          have hCr : C.1 r ≠ 0 := by rcases htt with z | z; exact absurd z (by omega); exact z
          have hDr : mx C.1 N 17 r = C.1 r := mx_at (by omega)
          have hO2 : ∀ i, i < 17 → mx N C.1 17 i = N i := fun i hi => mx_at hi
          refine ih ud1 (mx N C.1 17) r (ml (mx C.1 N 17) (mf_iv (mx C.1 N 17 r)) (r + 1)) C.2 h5 _ _ _ (mx_17 hN hC.1 17) (ml_17 hD17 _ _) hC.2 hu (by omega) (fun i z1 z2 => by rw [hO2 i z2]; exact hNz i z1 z2) (fun i z1 z2 => by rw [ml_ge _ _ _ _ (by omega), mx_at z2]; exact htz i (by omega) z2) (ml_one (hD17 r (by omega)) (by rw [hDr]; exact hCr)) (by omega) (hf5.at h564 (by simp)) (hf5.at (k4.at h683 (by simp)) (by simp)) h695 (hf5.at (k4.at (hF3.at h70 (by simp)) (by simp)) (by simp)) ?_
          exact ((hF2.tr hF3 (l := [56, 68, 69, 70]) (fun _ z => z) (by simp)).tr k4 (l := [56, 68, 69, 70]) (fun _ z => z) (by simp)).tr hf5 (fun _ z => z) (by simp)
    refine ar_icmp M_M_commonDivisor rfl rfl (fun hc2 => ?_) (fun hc2 => ?_)
    · have hc2 := c2_lt_t (a := dg) (b := ud1) (by omega) (by omega) hc2
      have e : cq dg ud1 O N T = (O, T) := by rw [cq, if_neg (by omega)]
      exact hgo h1 h560 (by rw [e]; exact h68) h69 (by rw [e]; exact h70) hF
    · have hc2 := c2_lt_f (a := dg) (b := ud1) (by omega) (by omega) hc2
      refine ar_go M_M_commonDivisor 2 _ 91 _ [some (.ref 56), some (.int (nI dg)), some (.int (nI 1)), x3, x4, x5, none] _ [.int (nI dg), .ref 56] rfl ?_
      refine ar_CV M_M_commonDivisor rfl rfl (Or.inl rfl) rfl rfl (Nat.le_of_ble_eq_true rfl) h56 M_M_divide (Nat.le_of_ble_eq_true rfl) (c_M_divide X (d + 1) _ hO hN hT (D := dg) (q := ud1) (by omega) hd h560 h68 h69 h70) (fun r1 h2 hq => ?_)
      obtain ⟨rfl, hf2, h682, h702⟩ := hq
      refine ⟨hf2.1, ?_⟩
      show ar Pg _ _ _ 94 [some (.ref 56), some (.int (nI dg)), some (.int (nI 1)), x3, x4, x5, none] [] _ _
      have e : cq dg ud1 O N T = rdv N ud1 (dg + 1 - ud1) (O, T) := by rw [cq, if_pos (by omega)]
      exact hgo h2 (hf2.at h560 (by simp)) (by rw [e]; exact h682) (hf2.at h69 (by simp)) (by rw [e]; exact h702) (hF.tr hf2 (fun _ z => z) (by simp))
theorem c_M_commonDivisor (X : am_X) (d : Nat) (h : am_H) {s : Int64} {ud ld pr tn : Int32} {nd : Int32} {Ua Wa O0 N0 T : Nat → Nat} {u l : Nat} (hul : u ≤ 16 ∧ l ≤ 16) (hU : lt17 Ua) (hW : lt17 Wa) (hO0 : lt17 O0) (hN0 : lt17 N0) (hT : lt17 T) (hW1 : Wa l = 1) (h56 : isM0 h s ud ld pr (nI u) (nI l) nd tn) (h66 : isLA h 66 17 Ua) (h67 : isLA h 67 17 Wa) (h68 : isLA h 68 17 O0) (h69 : isLA h 69 17 N0) (h70 : isLA h 70 17 T) : ar Pg X (d + 1 + 1 + 1) n_M_commonDivisor 0 [some (.ref 56), none, none, none, none, none, none] [] h (fun rr h' => rr = none ∧ fr [56, 68, 69, 70] h h' ∧ isM0 h' s ud ld pr (nI u) (nI l) (nI (ceu (l + 1) u (mx (pd u Ua) O0 17) l (mx (pd l Wa) N0 17) T).1) tn ∧ isLA h' 69 17 (ceu (l + 1) u (mx (pd u Ua) O0 17) l (mx (pd l Wa) N0 17) T).2 ∧ (∃ O', isLA h' 68 17 O' ∧ lt17 O') ∧ ∃ T', isLA h' 70 17 T' ∧ lt17 T') := by
  refine ar_go M_M_commonDivisor 2 _ 2 _ [some (.ref 56), some (.int (nI 0)), none, none, none, none, none] _ [] rfl ?_
  refine c_M_cd_1 X _ h (O0 := O0) (N0 := N0) hul h66 h67 ?_ 18 0 h (by omega) (by omega) h56 (by rw [mx_0]; exact h68) (by rw [mx_0]; exact h69) (fr.rf _ _)
  intro h1 h561 h681 h691 hF1
  have h56 := h561
  unfold isM0 at h56
  refine ar_go M_M_commonDivisor 2 _ 64 _ [some (.ref 56), some (.int (nI 17)), none, none, none, none, none] _ [.ref 56, .ref 56] rfl ?_
  refine ar_get M_M_commonDivisor rfl rfl h56 rfl ?_
  refine ar_put M_M_commonDivisor rfl rfl h56 (Nat.le_of_ble_eq_true rfl) rfl (Nat.le_of_ble_eq_true rfl) (fun h2 hf he => ?_)
  have h56 : h2[56]? = some (.inr (5, [.ref 57, .ref 58, .ref 59, .ref 60, .ref 61, .long s, .ref 62, .ref 63, .int ud, .int ld, .int pr, .ref 64, .ref 65, .ref 66, .ref 67, .int (nI u), .int (nI l), .ref 68, .ref 69, .ref 70, .int (nI l), .int tn, .ref 71, .ref 72, .ref 73, .ref 74, .ref 75])) := he
  have k2 := hf
  refine ar_go M_M_commonDivisor 1 _ 71 _ [some (.ref 56), some (.int (nI 17)), none, none, none, none, none] _ [.ref 56] rfl ?_
  refine ar_get M_M_commonDivisor rfl rfl h56 rfl ?_
  refine ar_go M_M_commonDivisor 3 _ 77 _ [some (.ref 56), some (.int (nI u)), some (.int (nI 1)), none, none, none, none] _ [] rfl ?_
  have hO17 := mx_17 (pd_17 (u := u) hU) hO0 17
  have hN17 := mx_17 (pd_17 (u := l) hW) hN0 17
  refine ar_mono (c_M_cd_3 X d h (l + 1) u (mx (pd u Ua) O0 17) l (mx (pd l Wa) N0 17) T h2 none none none hO17 hN17 hT hul.1 hul.2 (fun i z1 z2 => by rw [mx_at z2, pd, if_neg (by omega)]) (fun i z1 z2 => by rw [mx_at z2, pd, if_neg (by omega)]) (by rw [mx_at (by omega), pd, if_pos (Nat.le_refl _)]; exact hW1) (by omega) h56 (k2.at h681 (by simp)) (k2.at h691 (by simp)) (k2.at (hF1.at h70 (by simp)) (by simp)) (hF1.tr k2 (by simp) (by simp))) (fun r h9 z => z)
