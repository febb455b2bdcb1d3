/-! Equations: the small methods -/
theorem c_Q_unknown (X : am_X) (d : Nat) (h : am_H) {ro : Nat → Nat} {c col : Nat} {M : Nat → Nat → Nat} {uk : Nat → Option Nat} (hQ : isQ h ro c M uk) (hc : c < 17) (hcol : col < 16) (huk : ∀ i r, i < 16 → uk i = some r → r < 16) : ar Pg X d n_Q_unknown 0 [some (.ref 19), some (.int (nI col)), none] [] h (fun rr h' => rr = some (.long (lN (unk M uk c col))) ∧ h' = h) := by
  obtain ⟨q1, ⟨g, q2, q3⟩, q4, q5, q6, q7⟩ := hQ
  refine ar_go M_Q_unknown 1 _ 1 _ [some (.ref 19), some (.int (nI col)), none] _ [.ref 19] rfl ?_
  refine ar_get M_Q_unknown rfl rfl q1 rfl ?_
  refine ar_go M_Q_unknown 1 _ 5 _ [some (.ref 19), some (.int (nI col)), none] _ [.int (nI col), .ref 37] rfl ?_
  refine ar_iald M_Q_unknown rfl (by unfold am_x0; omega) q7 (vp_in_nI (by omega) (by decide)) ?_
  rw [nI_clamp (n := col) (by omega)]
  refine ar_top (w := .int (ruI (uk col))) (congrArg Value.int rfl) ?_
  refine ar_go M_Q_unknown 3 _ 9 _ [some (.ref 19), some (.int (nI col)), some (.int (ruI (uk col)))] _ [.int (-1), .int (ruI (uk col))] rfl ?_
  cases hu : uk col with
  | none =>
      refine ar_icmp M_Q_unknown rfl rfl (fun z => absurd z (by decide)) (fun _ => ?_)
      refine ar_go M_Q_unknown 2 _ 27 _ [some (.ref 19), some (.int (nI col)), some (.int (-1))] _ [.long (lN 0)] rfl ?_
      exact ar_R M_Q_unknown rfl rfl rfl rfl (⟨by unfold unk; rw [hu], rfl⟩)
  | some rr =>
      have hrr := huk col rr hcol hu
      refine ar_icmp M_Q_unknown rfl rfl (fun _ => ?_) (fun z => ?_)
      · refine ar_go M_Q_unknown 1 _ 17 _ [some (.ref 19), some (.int (nI col)), some (.int (nI rr))] _ [.ref 19] rfl ?_
        refine ar_get M_Q_unknown rfl rfl q1 rfl ?_
        refine ar_go M_Q_unknown 1 _ 21 _ [some (.ref 19), some (.int (nI col)), some (.int (nI rr))] _ [.int (nI rr), .ref 20] rfl ?_
        refine ar_aald M_Q_unknown rfl q2 (Or.inl rfl) (vp_in_nI (by omega) (by decide)) (by rw [nI_clamp (n := rr) (by omega)]; exact q3 rr (by omega)) ?_
        have hx1 := q5 rr (by omega)
        refine ar_go M_Q_unknown 1 _ 23 _ [some (.ref 19), some (.int (nI col)), some (.int (nI rr))] _ [.ref 19, .ref (ro rr)] rfl ?_
        refine ar_get M_Q_unknown rfl rfl q1 rfl ?_
        refine ar_lald M_Q_unknown rfl hx1 (vp_in_nI (by omega) (by decide)) ?_
        rw [nI_clamp (n := c) (by omega)]
        exact ar_R M_Q_unknown rfl rfl rfl rfl (⟨by unfold unk; rw [hu], rfl⟩)
      · exact absurd ((Decidable.not_not.mp (of_decide_eq_false z) : nI rr = -1)) (fun e => absurd (nI_pos (n := rr) (by omega)) (by rw [e]; decide))
theorem c_Q_fz_loop (X : am_X) (d : Nat) (h : am_H) {ro : Nat → Nat} {c fm col : Nat} {M : Nat → Nat → Nat} {uk : Nat → Option Nat} (hQ : isQ h ro c M uk) (hc : c < 17) (hcol : col < 17) : ∀ (n row : Nat), row + n = c → ar Pg X d n_Q_rowWithout0 2 [some (.ref 19), some (.int (nI fm)), some (.int (nI col)), some (.int (nI row))] [] h (fun rr h' => rr = some (.int (nI (fz M col n row))) ∧ h' = h) := by
  obtain ⟨q1, ⟨g, q2, q3⟩, q4, q5, q6, q7⟩ := hQ
  intro n
  induction n with
  | zero =>
    intro row hn
    have hn : row = c := by omega
    subst hn
    refine ar_go M_Q_rowWithout0 2 _ 4 _ [some (.ref 19), some (.int (nI fm)), some (.int (nI col)), some (.int (nI row))] _ [.ref 19, .int (nI row)] rfl ?_
    refine ar_get M_Q_rowWithout0 rfl rfl q1 rfl ?_
    refine ar_icmp M_Q_rowWithout0 rfl rfl (fun _ => ?_) (fun hc => ?_)
    · refine ar_go M_Q_rowWithout0 1 _ 30 _ [some (.ref 19), some (.int (nI fm)), some (.int (nI col)), some (.int (nI row))] _ [.int (nI row)] rfl ?_
      exact ar_R M_Q_rowWithout0 rfl rfl rfl rfl ⟨rfl, rfl⟩
    · have hc := c2_ge_f (a := row) (b := row) (by omega) (by omega) hc
      omega
  | succ n ih =>
    intro row hn
    refine ar_go M_Q_rowWithout0 2 _ 4 _ [some (.ref 19), some (.int (nI fm)), some (.int (nI col)), some (.int (nI row))] _ [.ref 19, .int (nI row)] rfl ?_
    refine ar_get M_Q_rowWithout0 rfl rfl q1 rfl ?_
    refine ar_icmp M_Q_rowWithout0 rfl rfl (fun hc => ?_) (fun hc => ?_)
    · have hc := c2_ge_t (a := row) (b := c) (by omega) (by omega) hc
      omega
    · have hc := c2_ge_f (a := row) (b := c) (by omega) (by omega) hc
      refine ar_go M_Q_rowWithout0 1 _ 11 _ [some (.ref 19), some (.int (nI fm)), some (.int (nI col)), some (.int (nI row))] _ [.ref 19] rfl ?_
      refine ar_get M_Q_rowWithout0 rfl rfl q1 rfl ?_
      refine ar_go M_Q_rowWithout0 1 _ 15 _ [some (.ref 19), some (.int (nI fm)), some (.int (nI col)), some (.int (nI row))] _ [.int (nI row), .ref 20] rfl ?_
      refine ar_aald M_Q_rowWithout0 rfl q2 (Or.inl rfl) (vp_in_nI (by omega) (by decide)) (by rw [nI_clamp (n := row) (by omega)]; exact q3 row (by omega)) ?_
      have hx1 := q5 row (by omega)
      refine ar_go M_Q_rowWithout0 1 _ 17 _ [some (.ref 19), some (.int (nI fm)), some (.int (nI col)), some (.int (nI row))] _ [.int (nI col), .ref (ro row)] rfl ?_
      refine ar_lald M_Q_rowWithout0 rfl hx1 (vp_in_nI (by omega) (by decide)) ?_
      rw [nI_clamp (n := col) (by omega)]
      have hcj := q6 row (by omega) col (by omega)
      refine ar_go M_Q_rowWithout0 1 _ 19 _ [some (.ref 19), some (.int (nI fm)), some (.int (nI col)), some (.int (nI row))] _ [.long (lN 0), .long (lN ((M row) col))] rfl ?_
      refine ar_go M_Q_rowWithout0 1 _ 20 _ [some (.ref 19), some (.int (nI fm)), some (.int (nI col)), some (.int (nI row))] _ [.int (lg_cmp (lN ((M row) col)) (lN 0))] rfl ?_
      refine ar_top (w := .int (if M row col = 0 then 0 else 1)) (congrArg Value.int (lcmp0 hcj)) ?_
      by_cases h0 : M row col = 0
      · rw [if_pos h0]
        refine ar_if M_Q_rowWithout0 rfl rfl (fun z => absurd z (by decide)) (fun _ => ?_)
        refine ar_go M_Q_rowWithout0 1 _ 26 _ [some (.ref 19), some (.int (nI fm)), some (.int (nI col)), some (.int (nI row + Int32.ofInt 1))] _ [] rfl ?_
        rw [show nI row + Int32.ofInt 1 = nI (row + 1) from nI_add row 1]
        refine ar_go M_Q_rowWithout0 1 _ 2 _ [some (.ref 19), some (.int (nI fm)), some (.int (nI col)), some (.int (nI (row + 1)))] _ [] rfl ?_
        rw [fz, if_pos h0]
        exact ih (row + 1) (by omega)
      · rw [if_neg h0]
        refine ar_if M_Q_rowWithout0 rfl rfl (fun _ => ?_) (fun z => absurd z (by decide))
        rw [fz, if_neg h0]
        refine ar_go M_Q_rowWithout0 1 _ 30 _ [some (.ref 19), some (.int (nI fm)), some (.int (nI col)), some (.int (nI row))] _ [.int (nI row)] rfl ?_
        exact ar_R M_Q_rowWithout0 rfl rfl rfl rfl (⟨rfl, rfl⟩)
theorem c_Q_rowWithout0 (X : am_X) (d : Nat) (h : am_H) {ro : Nat → Nat} {c fm col : Nat} {M : Nat → Nat → Nat} {uk : Nat → Option Nat} (hQ : isQ h ro c M uk) (hc : c < 17) (hcol : col < 17) (hfm : fm ≤ c) : ar Pg X d n_Q_rowWithout0 0 [some (.ref 19), some (.int (nI fm)), some (.int (nI col)), none] [] h (fun rr h' => rr = some (.int (nI (fz M col (c - fm) fm))) ∧ h' = h) := by
  refine ar_go M_Q_rowWithout0 2 _ 2 _ [some (.ref 19), some (.int (nI fm)), some (.int (nI col)), some (.int (nI fm))] _ [] rfl ?_
  exact c_Q_fz_loop X d h hQ hc hcol (c - fm) fm (by omega)
theorem c_Q_rs_loop (X : am_X) (d : Nat) (h : am_H) {ro : Nat → Nat} {c fm : Nat} {M : Nat → Nat → Nat} {uk : Nat → Option Nat} (hQ : isQ h ro c M uk) (hc : c < 17) : ∀ (n row : Nat), row + n = c → ar Pg X d n_Q_rightSidesAre0 2 [some (.ref 19), some (.int (nI fm)), some (.int (nI row))] [] h (fun rr h' => rr = some (.int (bi (rs0 M c n row))) ∧ h' = h) := by
  obtain ⟨q1, ⟨g, q2, q3⟩, q4, q5, q6, q7⟩ := hQ
  intro n
  induction n with
  | zero =>
    intro row hn
    have hn : row = c := by omega
    subst hn
    refine ar_go M_Q_rightSidesAre0 2 _ 4 _ [some (.ref 19), some (.int (nI fm)), some (.int (nI row))] _ [.ref 19, .int (nI row)] rfl ?_
    refine ar_get M_Q_rightSidesAre0 rfl rfl q1 rfl ?_
    refine ar_icmp M_Q_rightSidesAre0 rfl rfl (fun _ => ?_) (fun hc => ?_)
    · refine ar_go M_Q_rightSidesAre0 1 _ 35 _ [some (.ref 19), some (.int (nI fm)), some (.int (nI row))] _ [.int (nI 1)] rfl ?_
      exact ar_zret M_Q_rightSidesAre0 rfl rfl (Or.inr rfl) ⟨rfl, rfl⟩
    · have hc := c2_ge_f (a := row) (b := row) (by omega) (by omega) hc
      omega
  | succ n ih =>
    intro row hn
    refine ar_go M_Q_rightSidesAre0 2 _ 4 _ [some (.ref 19), some (.int (nI fm)), some (.int (nI row))] _ [.ref 19, .int (nI row)] rfl ?_
    refine ar_get M_Q_rightSidesAre0 rfl rfl q1 rfl ?_
    refine ar_icmp M_Q_rightSidesAre0 rfl rfl (fun hc => ?_) (fun hc => ?_)
    · have hc := c2_ge_t (a := row) (b := c) (by omega) (by omega) hc
      omega
    · have hc := c2_ge_f (a := row) (b := c) (by omega) (by omega) hc
      refine ar_go M_Q_rightSidesAre0 1 _ 11 _ [some (.ref 19), some (.int (nI fm)), some (.int (nI row))] _ [.ref 19] rfl ?_
      refine ar_get M_Q_rightSidesAre0 rfl rfl q1 rfl ?_
      refine ar_go M_Q_rightSidesAre0 1 _ 15 _ [some (.ref 19), some (.int (nI fm)), some (.int (nI row))] _ [.int (nI row), .ref 20] rfl ?_
      refine ar_aald M_Q_rightSidesAre0 rfl q2 (Or.inl rfl) (vp_in_nI (by omega) (by decide)) (by rw [nI_clamp (n := row) (by omega)]; exact q3 row (by omega)) ?_
      have hx1 := q5 row (by omega)
      refine ar_go M_Q_rightSidesAre0 1 _ 17 _ [some (.ref 19), some (.int (nI fm)), some (.int (nI row))] _ [.ref 19, .ref (ro row)] rfl ?_
      refine ar_get M_Q_rightSidesAre0 rfl rfl q1 rfl ?_
      refine ar_lald M_Q_rightSidesAre0 rfl hx1 (vp_in_nI (by omega) (by decide)) ?_
      rw [nI_clamp (n := c) (by omega)]
      have hcj := q6 row (by omega) c (by omega)
      refine ar_go M_Q_rightSidesAre0 1 _ 22 _ [some (.ref 19), some (.int (nI fm)), some (.int (nI row))] _ [.long (lN 0), .long (lN ((M row) c))] rfl ?_
      refine ar_go M_Q_rightSidesAre0 1 _ 23 _ [some (.ref 19), some (.int (nI fm)), some (.int (nI row))] _ [.int (lg_cmp (lN ((M row) c)) (lN 0))] rfl ?_
      refine ar_top (w := .int (if M row c = 0 then 0 else 1)) (congrArg Value.int (lcmp0 hcj)) ?_
      by_cases h0 : M row c = 0
      · rw [if_pos h0]
        refine ar_if M_Q_rightSidesAre0 rfl rfl (fun _ => ?_) (fun z => absurd z (by decide))
        refine ar_go M_Q_rightSidesAre0 1 _ 31 _ [some (.ref 19), some (.int (nI fm)), some (.int (nI row + Int32.ofInt 1))] _ [] rfl ?_
        rw [show nI row + Int32.ofInt 1 = nI (row + 1) from nI_add row 1]
        refine ar_go M_Q_rightSidesAre0 1 _ 2 _ [some (.ref 19), some (.int (nI fm)), some (.int (nI (row + 1)))] _ [] rfl ?_
        rw [rs0, if_pos h0]
        exact ih (row + 1) (by omega)
      · rw [if_neg h0]
        refine ar_if M_Q_rightSidesAre0 rfl rfl (fun z => absurd z (by decide)) (fun _ => ?_)
        rw [rs0, if_neg h0]
        refine ar_go M_Q_rightSidesAre0 1 _ 27 _ [some (.ref 19), some (.int (nI fm)), some (.int (nI row))] _ [.int (nI 0)] rfl ?_
        exact ar_zret M_Q_rightSidesAre0 rfl rfl (Or.inl rfl) (⟨rfl, rfl⟩)
theorem c_Q_rightSidesAre0 (X : am_X) (d : Nat) (h : am_H) {ro : Nat → Nat} {c fm : Nat} {M : Nat → Nat → Nat} {uk : Nat → Option Nat} (hQ : isQ h ro c M uk) (hc : c < 17) (hfm : fm ≤ c) : ar Pg X d n_Q_rightSidesAre0 0 [some (.ref 19), some (.int (nI fm)), none] [] h (fun rr h' => rr = some (.int (bi (rs0 M c (c - fm) fm))) ∧ h' = h) := by
  refine ar_go M_Q_rightSidesAre0 2 _ 2 _ [some (.ref 19), some (.int (nI fm)), some (.int (nI fm))] _ [] rfl ?_
  exact c_Q_rs_loop X d h hQ hc (c - fm) fm (by omega)
theorem updM_updM (M : Nat → Nat → Nat) (i : Nat) (A B : Nat → Nat) : updM (updM M i A) i B = updM M i B := by
  funext a
  unfold updM
  split <;> rfl
theorem updM_self (M : Nat → Nat → Nat) (i : Nat) : updM M i (M i) = M := by
  funext a
  unfold updM
  split
  · subst_vars; rfl
  · rfl
theorem c_Q_sc_loop (X : am_X) (d : Nat) (h : am_H) {ro : Nat → Nat} {c row fm s : Nat} {M : Nat → Nat → Nat} {uk : Nat → Option Nat} (hc : c < 17) (hrow : row < 16) (hfm : fm ≤ c) (hs : s < 2147483648) (hM : ∀ i, i < 16 → lt17 (M i)) : ∀ (n i : Nat) (h1 : am_H), c + 1 - fm - i < n → i ≤ c + 1 - fm → isQ h1 ro c (updM M row (sc1 (M row) s fm i)) uk → fr eqL h h1 → ar Pg X (d + 1) n_Q_scaleRow 11 [some (.ref 19), some (.int (nI row)), some (.int (nI fm)), some (.long (lN s)), none, some (.ref (ro row)), some (.int (nI (fm + i)))] [] h1 (fun rr h' => rr = none ∧ fr eqL h h' ∧ isQ h' ro c (updM M row (sc1 (M row) s fm (c + 1 - fm))) uk) := by
  intro n
  induction n with
  | zero => intro i h1 hn; omega
  | succ n ih =>
    intro i h1 hn hi hQ hF
    have hQ0 := hQ
    obtain ⟨q1, ⟨g, q2, q3⟩, q4, q5, q6, q7⟩ := hQ0
    have hrb := q4.1 row hrow
    have hx := q5 row hrow
    rw [updM_s] at hx
    refine ar_go M_Q_scaleRow 2 _ 14 _ [some (.ref 19), some (.int (nI row)), some (.int (nI fm)), some (.long (lN s)), none, some (.ref (ro row)), some (.int (nI (fm + i)))] _ [.ref 19, .int (nI (fm + i))] rfl ?_
    refine ar_get M_Q_scaleRow rfl rfl q1 rfl ?_
    refine ar_icmp M_Q_scaleRow rfl rfl (fun hc => ?_) (fun hc => ?_)
    · have hc := c2_gt_t (a := (fm + i)) (b := c) (by omega) (by omega) hc
      have hi2 : i = c + 1 - fm := by omega
      rw [hi2] at hQ
      exact ar_R M_Q_scaleRow rfl rfl rfl rfl (⟨rfl, hF, hQ⟩)
    · have hc := c2_gt_f (a := (fm + i)) (b := c) (by omega) (by omega) hc
      have hxx := sc1_17 (hM row hrow) s fm i (fm + i) (by omega)
      refine ar_go M_Q_scaleRow 4 _ 28 _ [some (.ref 19), some (.int (nI row)), some (.int (nI fm)), some (.long (lN s)), none, some (.ref (ro row)), some (.int (nI (fm + i)))] _ [.int (nI (fm + i)), .ref (ro row), .int (nI (fm + i)), .ref (ro row)] rfl ?_
      refine ar_lald M_Q_scaleRow rfl hx (vp_in_nI (by omega) (by decide)) ?_
      rw [nI_clamp (n := (fm + i)) (by omega)]
      refine ar_go M_Q_scaleRow 1 _ 30 _ [some (.ref 19), some (.int (nI row)), some (.int (nI fm)), some (.long (lN s)), none, some (.ref (ro row)), some (.int (nI (fm + i)))] _ [.long (lN s), .long (lN ((sc1 (M row) s fm i) (fm + i))), .int (nI (fm + i)), .ref (ro row)] rfl ?_
      refine ar_CS M_Q_scaleRow rfl rfl (Nat.le_of_ble_eq_true rfl) rfl rfl (Nat.le_of_ble_eq_true rfl) M_F_times (Nat.le_of_ble_eq_true rfl) (c_F_times X d _ (by omega) hs) (fun r1 h1 hq => ?_)
      obtain ⟨rfl, rfl⟩ := hq
      refine ⟨rfl, ?_⟩
      show ar Pg _ _ _ 33 [some (.ref 19), some (.int (nI row)), some (.int (nI fm)), some (.long (lN s)), none, some (.ref (ro row)), some (.int (nI (fm + i)))] [.long (lN (sc1 (M row) s fm i (fm + i) * s % 2147483647)), .int (nI (fm + i)), .ref (ro row)] _ _
      refine ar_last M_Q_scaleRow rfl hx (vp_in_nI (by omega) (by decide)) (fun h2 hf he => ?_)
      rw [nI_clamp (n := (fm + i)) (by omega)] at he
      rw [updL_lN] at he
      have q1 := hf.at q1 (by simp only [List.mem_cons, List.not_mem_nil, or_false]; omega)
      have hx : h2[(ro row)]? = some (.inl (1, 17, .inr (.inl (fun z9 => lN ((updN (sc1 (M row) s fm i) (fm + i) (sc1 (M row) s fm i (fm + i) * s % 2147483647)) z9))))) := he
      refine ar_go M_Q_scaleRow 1 _ 37 _ [some (.ref 19), some (.int (nI row)), some (.int (nI fm)), some (.long (lN s)), none, some (.ref (ro row)), some (.int (nI (fm + i) + Int32.ofInt 1))] _ [] rfl ?_
      rw [show nI (fm + i) + Int32.ofInt 1 = nI ((fm + i) + 1) from nI_add (fm + i) 1]
      refine ar_go M_Q_scaleRow 1 _ 11 _ [some (.ref 19), some (.int (nI row)), some (.int (nI fm)), some (.long (lN s)), none, some (.ref (ro row)), some (.int (nI ((fm + i) + 1)))] _ [] rfl ?_
      have hQ2 := hQ.set hrow hf hx (sc1_17 (hM row hrow) s fm (i + 1))
      rw [updM_updM] at hQ2
      exact ih (i + 1) h2 (by omega) (by omega) hQ2 (hF.tr hf (by simp) (eq_sub q4 hrow))
theorem c_Q_scaleRow (X : am_X) (d : Nat) (h : am_H) {ro : Nat → Nat} {c row fm s : Nat} {M : Nat → Nat → Nat} {uk : Nat → Option Nat} (hQ : isQ h ro c M uk) (hc : c < 17) (hrow : row < 16) (hfm : fm ≤ c) (hs : s < 2147483648) : ar Pg X (d + 1) n_Q_scaleRow 0 [some (.ref 19), some (.int (nI row)), some (.int (nI fm)), some (.long (lN s)), none, none, none] [] h (fun rr h' => rr = none ∧ fr eqL h h' ∧ isQ h' ro c (updM M row (sc1 (M row) s fm (c + 1 - fm))) uk) := by
  have hQ0 := hQ
  obtain ⟨q1, ⟨g, q2, q3⟩, q4, q5, q6, q7⟩ := hQ
  refine ar_go M_Q_scaleRow 1 _ 1 _ [some (.ref 19), some (.int (nI row)), some (.int (nI fm)), some (.long (lN s)), none, none, none] _ [.ref 19] rfl ?_
  refine ar_get M_Q_scaleRow rfl rfl q1 rfl ?_
  refine ar_go M_Q_scaleRow 1 _ 5 _ [some (.ref 19), some (.int (nI row)), some (.int (nI fm)), some (.long (lN s)), none, none, none] _ [.int (nI row), .ref 20] rfl ?_
  refine ar_aald M_Q_scaleRow rfl q2 (Or.inl rfl) (vp_in_nI (by omega) (by decide)) (by rw [nI_clamp (n := row) (by omega)]; exact q3 row (by omega)) ?_
  have hx1 := q5 row (by omega)
  refine ar_go M_Q_scaleRow 3 _ 11 _ [some (.ref 19), some (.int (nI row)), some (.int (nI fm)), some (.long (lN s)), none, some (.ref (ro row)), some (.int (nI fm))] _ [] rfl ?_
  have := c_Q_sc_loop X d h (row := row) (fm := fm) (s := s) hc hrow hfm hs q6 (c + 2) 0 h (by omega) (by omega) (by rw [show sc1 (M row) s fm 0 = M row from rfl, updM_self]; exact hQ0) (fr.rf _ _)
  exact this
