/-! The reference: takeOver, its second loop and the whole -/
theorem c_M_to_e (X : am_X) (d : Nat) (h1 : am_H) {T : Tk} {s : Int64} {ud ld pr uD lD nd : Int32} {sz nu ve gr dr : Nat → Int32} (h56 : isM0 h1 s ud ld pr uD lD nd (nI T.length)) (hA : isMa h1 sz nu ve gr dr) (hT : isT h1 T) {k b q : Nat} (hk : k < T.length) (hq : q < 256) {Q : Option Value → am_H → Prop} (K : ∀ h' : am_H, fr [59, 60, 61] h1 h' → isM0 h' s ud ld pr uD lD nd (nI T.length) → isMa h' sz nu (upd ve q (nI ((ten T k).1 % 1024))) (upd gr q (ten T k).2.1) (upd dr q (bi (ten T k).2.2)) → ar Pg X (d + 1) n_M_takeOver 79 [some (.ref 56), some (.int (nI (k + 1))), some (.int (nI b)), some (.int (nI q))] [] h' Q) : ar Pg X (d + 1) n_M_takeOver 126 [some (.ref 56), some (.int (nI k)), some (.int (nI b)), some (.int (nI q))] [] h1 Q := by
  obtain ⟨h57, h58, h59, h60, h61⟩ := hA
  obtain ⟨hTl, ta, tb, tc, td, te, ⟨h71, h72, h73, h74, h75⟩, hTc⟩ := hT
  unfold isM0 at h56
  obtain ⟨q1, q2, q3, q4, q5⟩ := hTc k hk
  refine ar_go M_M_takeOver 1 _ 127 _ [some (.ref 56), some (.int (nI k)), some (.int (nI b)), some (.int (nI q))] _ [.ref 56] rfl ?_
  refine ar_get M_M_takeOver rfl rfl h56 rfl ?_
  refine ar_go M_M_takeOver 2 _ 132 _ [some (.ref 56), some (.int (nI k)), some (.int (nI b)), some (.int (nI q))] _ [.ref 56, .int (nI q), .ref 59] rfl ?_
  refine ar_get M_M_takeOver rfl rfl h56 rfl ?_
  refine ar_go M_M_takeOver 1 _ 136 _ [some (.ref 56), some (.int (nI k)), some (.int (nI b)), some (.int (nI q))] _ [.int (nI k), .ref 73, .int (nI q), .ref 59] rfl ?_
  refine ar_iald M_M_takeOver rfl (by unfold am_x0; omega) h73 (vp_in_nI (by omega) (by decide)) ?_
  rw [nI_clamp (n := k) (by omega)]
  refine ar_top (w := .int (nI ((ten T k).1 % 1024))) (congrArg Value.int q3) ?_
  refine ar_iast M_M_takeOver rfl h59 (vp_in_nI (by omega) (by decide)) (fun h2 hf he => ?_)
  rw [nI_clamp (n := q) (by omega)] at he
  have h56 := hf.at h56 (by simp only [List.mem_cons, List.not_mem_nil, or_false]; omega)
  have h57 := hf.at h57 (by simp only [List.mem_cons, List.not_mem_nil, or_false]; omega)
  have h58 := hf.at h58 (by simp only [List.mem_cons, List.not_mem_nil, or_false]; omega)
  have h60 := hf.at h60 (by simp only [List.mem_cons, List.not_mem_nil, or_false]; omega)
  have h61 := hf.at h61 (by simp only [List.mem_cons, List.not_mem_nil, or_false]; omega)
  have h71 := hf.at h71 (by simp only [List.mem_cons, List.not_mem_nil, or_false]; omega)
  have h72 := hf.at h72 (by simp only [List.mem_cons, List.not_mem_nil, or_false]; omega)
  have h73 := hf.at h73 (by simp only [List.mem_cons, List.not_mem_nil, or_false]; omega)
  have h74 := hf.at h74 (by simp only [List.mem_cons, List.not_mem_nil, or_false]; omega)
  have h75 := hf.at h75 (by simp only [List.mem_cons, List.not_mem_nil, or_false]; omega)
  have h59 : h2[59]? = some (.inl (0, 256, .inl (upd ve q (nI ((ten T k).1 % 1024))))) := he
  have k1 := hf
  refine ar_go M_M_takeOver 1 _ 139 _ [some (.ref 56), some (.int (nI k)), some (.int (nI b)), some (.int (nI q))] _ [.ref 56] rfl ?_
  refine ar_get M_M_takeOver rfl rfl h56 rfl ?_
  refine ar_go M_M_takeOver 2 _ 144 _ [some (.ref 56), some (.int (nI k)), some (.int (nI b)), some (.int (nI q))] _ [.ref 56, .int (nI q), .ref 60] rfl ?_
  refine ar_get M_M_takeOver rfl rfl h56 rfl ?_
  refine ar_go M_M_takeOver 1 _ 148 _ [some (.ref 56), some (.int (nI k)), some (.int (nI b)), some (.int (nI q))] _ [.int (nI k), .ref 74, .int (nI q), .ref 60] rfl ?_
  refine ar_iald M_M_takeOver rfl (by unfold am_x0; omega) h74 (vp_in_nI (by omega) (by decide)) ?_
  rw [nI_clamp (n := k) (by omega)]
  refine ar_top (w := .int ((ten T k).2.1)) (congrArg Value.int q4) ?_
  refine ar_iast M_M_takeOver rfl h60 (vp_in_nI (by omega) (by decide)) (fun h3 hf he => ?_)
  rw [nI_clamp (n := q) (by omega)] at he
  have h56 := hf.at h56 (by simp only [List.mem_cons, List.not_mem_nil, or_false]; omega)
  have h57 := hf.at h57 (by simp only [List.mem_cons, List.not_mem_nil, or_false]; omega)
  have h58 := hf.at h58 (by simp only [List.mem_cons, List.not_mem_nil, or_false]; omega)
  have h59 := hf.at h59 (by simp only [List.mem_cons, List.not_mem_nil, or_false]; omega)
  have h61 := hf.at h61 (by simp only [List.mem_cons, List.not_mem_nil, or_false]; omega)
  have h71 := hf.at h71 (by simp only [List.mem_cons, List.not_mem_nil, or_false]; omega)
  have h72 := hf.at h72 (by simp only [List.mem_cons, List.not_mem_nil, or_false]; omega)
  have h73 := hf.at h73 (by simp only [List.mem_cons, List.not_mem_nil, or_false]; omega)
  have h74 := hf.at h74 (by simp only [List.mem_cons, List.not_mem_nil, or_false]; omega)
  have h75 := hf.at h75 (by simp only [List.mem_cons, List.not_mem_nil, or_false]; omega)
  have h60 : h3[60]? = some (.inl (0, 256, .inl (upd gr q ((ten T k).2.1)))) := he
  have k2 := hf
  refine ar_go M_M_takeOver 1 _ 151 _ [some (.ref 56), some (.int (nI k)), some (.int (nI b)), some (.int (nI q))] _ [.ref 56] rfl ?_
  refine ar_get M_M_takeOver rfl rfl h56 rfl ?_
  refine ar_go M_M_takeOver 2 _ 156 _ [some (.ref 56), some (.int (nI k)), some (.int (nI b)), some (.int (nI q))] _ [.ref 56, .int (nI q), .ref 61] rfl ?_
  refine ar_get M_M_takeOver rfl rfl h56 rfl ?_
  refine ar_go M_M_takeOver 1 _ 160 _ [some (.ref 56), some (.int (nI k)), some (.int (nI b)), some (.int (nI q))] _ [.int (nI k), .ref 75, .int (nI q), .ref 61] rfl ?_
  refine ar_zald M_M_takeOver rfl h75 (vp_in_nI (by omega) (by decide)) ?_
  rw [nI_clamp (n := k) (by omega)]
  refine ar_top (w := .int (bi (ten T k).2.2)) (congrArg Value.int q5) ?_
  refine ar_zast M_M_takeOver rfl h61 (vp_in_nI (by omega) (by decide)) (fun h4 hf he => ?_)
  rw [nI_clamp (n := q) (by omega)] at he
  have h56 := hf.at h56 (by simp only [List.mem_cons, List.not_mem_nil, or_false]; omega)
  have h57 := hf.at h57 (by simp only [List.mem_cons, List.not_mem_nil, or_false]; omega)
  have h58 := hf.at h58 (by simp only [List.mem_cons, List.not_mem_nil, or_false]; omega)
  have h59 := hf.at h59 (by simp only [List.mem_cons, List.not_mem_nil, or_false]; omega)
  have h60 := hf.at h60 (by simp only [List.mem_cons, List.not_mem_nil, or_false]; omega)
  have h71 := hf.at h71 (by simp only [List.mem_cons, List.not_mem_nil, or_false]; omega)
  have h72 := hf.at h72 (by simp only [List.mem_cons, List.not_mem_nil, or_false]; omega)
  have h73 := hf.at h73 (by simp only [List.mem_cons, List.not_mem_nil, or_false]; omega)
  have h74 := hf.at h74 (by simp only [List.mem_cons, List.not_mem_nil, or_false]; omega)
  have h75 := hf.at h75 (by simp only [List.mem_cons, List.not_mem_nil, or_false]; omega)
  have h61 : h4[61]? = some (.inl (2, 256, .inl (upd dr q (vp_nar .boolean (bi (ten T k).2.2))))) := he
  have k3 := hf
  rw [nar_bi] at h61
  refine ar_go M_M_takeOver 1 _ 165 _ [some (.ref 56), some (.int (nI k + Int32.ofInt 1)), some (.int (nI b)), some (.int (nI q))] _ [] rfl ?_
  rw [show nI k + Int32.ofInt 1 = nI (k + 1) from nI_add k 1]
  refine ar_go M_M_takeOver 1 _ 79 _ [some (.ref 56), some (.int (nI (k + 1))), some (.int (nI b)), some (.int (nI q))] _ [] rfl ?_
  exact K h4 (k1.tr (k2.tr k3 (l := [59, 60, 61]) (by simp) (by simp)) (by simp) (by simp)) h56 ⟨h57, h58, h59, h60, h61⟩
theorem c_M_to_st (X : am_X) (d : Nat) (h : am_H) {B : Nat → Bk} {T : Tk} {s : Int64} {ud ld pr uD lD nd : Int32} (hT : isT h T) (hok : okT T) (hgB : ∀ c, c < 4 → gB (B c)) (hov : ∀ c, c < 4 → ovT B T c = false) {Q : Option Value → am_H → Prop} (K2 : ∀ (h1 : am_H) (x2 x3 : Option Value), isMb h1 (tB B T T.length) → isM0 h1 s ud ld pr uD lD nd (nI T.length) → fr [57, 58, 59, 60, 61] h h1 → ar Pg X (d + 1) n_M_takeOver 168 [some (.ref 56), some (.int (nI T.length)), x2, x3] [] h1 Q) : ∀ (n k : Nat) (h1 : am_H) (x2 x3 : Option Value), T.length - k < n → k ≤ T.length → isMb h1 (tB B T k) → isM0 h1 s ud ld pr uD lD nd (nI T.length) → fr [57, 58, 59, 60, 61] h h1 → ar Pg X (d + 1) n_M_takeOver 79 [some (.ref 56), some (.int (nI k)), x2, x3] [] h1 Q := by
  have K := K2
  intro n
  induction n with
  | zero => intro k h1 x2 x3 hk; omega
  | succ n ih =>
    intro k h1 x2 x3 hk hkl hBk h56 hF
    have hT1 := hT.mv hF (fun k _ _ => by simp; omega)
    have hT2 := hT1
    obtain ⟨hTl, ta, tb, tc, td, te, ⟨h71, h72, h73, h74, h75⟩, hTc⟩ := hT2
    have hB2 := hBk
    obtain ⟨sz, nu, ve, gr, dr, ⟨h57, h58, h59, h60, h61⟩, hc0⟩ := hB2
    have h560 := h56
    unfold isM0 at h56
    refine ar_go M_M_takeOver 2 _ 81 _ [some (.ref 56), some (.int (nI k)), x2, x3] _ [.ref 56, .int (nI k)] rfl ?_
    refine ar_get M_M_takeOver rfl rfl h56 rfl ?_
    refine ar_icmp M_M_takeOver rfl rfl (fun hc => ?_) (fun hc => ?_)
    · have hc := c2_ge_t (a := k) (b := (T.length)) (by omega) (by omega) hc
      have hk2 : k = T.length := by omega
      rw [hk2] at hBk ⊢
      exact K h1 x2 x3 hBk h560 hF
    · have hc := c2_ge_f (a := k) (b := (T.length)) (by omega) (by omega) hc
      obtain ⟨t1, t2⟩ := hok k (by omega)
      obtain ⟨q1, q2, q3, q4, q5⟩ := hTc k (by omega)
      obtain ⟨t3, t4, t5⟩ := t2
      obtain ⟨⟨gl, gS, gV⟩, _, _⟩ := tB_ok hgB hok k hkl (tkr T k) t1
      have hroom := tB_room hgB hok hov (k := k) (by omega)
      have hpl := (pos_pl (tB B T k (tkr T k)) ((ten T k).1 / 1024) gS).1
      have hgn : gB (stR (tB B T k (tkr T k)) (ten T k)) := ⟨stR_len gl gS _, stR_S gS _, stR_V gS gV ⟨t3, t4, t5⟩⟩
      have hWd := Nat.div_add_mod (ten T k).1 1024
      refine ar_go M_M_takeOver 1 _ 88 _ [some (.ref 56), some (.int (nI k)), x2, x3] _ [.ref 56] rfl ?_
      refine ar_get M_M_takeOver rfl rfl h56 rfl ?_
      refine ar_go M_M_takeOver 1 _ 92 _ [some (.ref 56), some (.int (nI k)), x2, x3] _ [.int (nI k), .ref 71] rfl ?_
      refine ar_iald M_M_takeOver rfl (by unfold am_x0; omega) h71 (vp_in_nI (by omega) (by decide)) ?_
      rw [nI_clamp (n := k) (by omega)]
      refine ar_top (w := .int (nI (tkr T k))) (congrArg Value.int q1) ?_
      refine ar_go M_M_takeOver 4 _ 97 _ [some (.ref 56), some (.int (nI k)), some (.int (nI (tkr T k))), x3] _ [.ref 56, .int (nI (tkr T k)), .ref 56] rfl ?_
      refine ar_get M_M_takeOver rfl rfl h56 rfl ?_
      refine ar_go M_M_takeOver 1 _ 101 _ [some (.ref 56), some (.int (nI k)), some (.int (nI (tkr T k))), x3] _ [.int (nI k), .ref 72, .int (nI (tkr T k)), .ref 56] rfl ?_
      refine ar_iald M_M_takeOver rfl (by unfold am_x0; omega) h72 (vp_in_nI (by omega) (by decide)) ?_
      rw [nI_clamp (n := k) (by omega)]
      refine ar_top (w := .int (nI ((ten T k).1 / 1024))) (congrArg Value.int q2) ?_
      refine ar_CV M_M_takeOver rfl rfl (Or.inl rfl) rfl rfl (Nat.le_of_ble_eq_true rfl) h56 M_M_find (Nat.le_of_ble_eq_true rfl) (c_M_find X d _ h560 hBk t1 (by omega)) (fun r1 h1 hq => ?_)
      obtain ⟨rfl, rfl⟩ := hq
      refine ⟨rfl, ?_⟩
      show ar Pg _ _ _ 105 [some (.ref 56), some (.int (nI k)), some (.int (nI (tkr T k))), x3] [.int (fnR (tB B T k (tkr T k)) (tkr T k) ((ten T k).1 / 1024))] _ _
      by_cases hh : hasAt (tB B T k (tkr T k)) (pos (tB B T k (tkr T k)) ((ten T k).1 / 1024)) ((ten T k).1 / 1024) = true
      · obtain ⟨p, hpe⟩ : ∃ p, p = pos (tB B T k (tkr T k)) ((ten T k).1 / 1024) := ⟨_, rfl⟩
        rw [fnR, ← hpe, if_pos (by rw [hpe]; exact hh)]
        rw [← hpe] at hh hpl
        have hp := hasAt_iff.mp hh
        refine ar_go M_M_takeOver 2 _ 107 _ [some (.ref 56), some (.int (nI k)), some (.int (nI (tkr T k))), some (.int (nI (64 * tkr T k + p)))] _ [.int (nI (64 * tkr T k + p))] rfl ?_
        refine ar_if M_M_takeOver rfl rfl (fun _ => ?_) (fun z => absurd (of_decide_eq_false z) (fun z => z (nI_nn (by omega))))
        refine ar_go M_M_takeOver 2 _ 126 _ [some (.ref 56), some (.int (nI k)), some (.int (nI (tkr T k))), some (.int (nI (64 * tkr T k + p)))] _ [] rfl ?_
        refine c_M_to_e X d h1 h560 ⟨h57, h58, h59, h60, h61⟩ hT1 (by omega) (by omega) ?_
        intro h' hf hm hA
        have hst : stR (tB B T k (tkr T k)) (ten T k) = (tB B T k (tkr T k)).set p (1024 * (wd (tB B T k (tkr T k)) p / 1024) + (ten T k).1 % 1024, (ten T k).2.1, (ten T k).2.2) := by unfold stR; rw [← hpe, if_pos hh, hp.2, hWd]
        rw [hst] at hgn
        refine ih (k + 1) h' _ _ (by omega) (by omega) ?_ hm (hF.tr hf (fun _ z => z) (by simp))
        rw [tB, hst]
        exact ⟨_, _, _, _, _, hA, isMc_set hc0 t1 hp.1 (fun j hj => ⟨pk_un hj, pk_un hj, pk_un hj⟩) ⟨pk_us, pk_us, pk_us⟩ (by omega) hgn⟩
      · have hh : hasAt (tB B T k (tkr T k)) (pos (tB B T k (tkr T k)) ((ten T k).1 / 1024)) ((ten T k).1 / 1024) = false := by simpa using hh
        rw [fnR, if_neg (by rw [hh]; decide)]
        have hlr := hroom hh
        refine ar_go M_M_takeOver 2 _ 107 _ [some (.ref 56), some (.int (nI k)), some (.int (nI (tkr T k))), some (.int (-1))] _ [.int (-1)] rfl ?_
        refine ar_if M_M_takeOver rfl rfl (fun z => absurd z (by decide)) (fun _ => ?_)
        refine ar_go M_M_takeOver 3 _ 113 _ [some (.ref 56), some (.int (nI k)), some (.int (nI (tkr T k))), some (.int (-1))] _ [.ref 56, .int (nI (tkr T k)), .ref 56] rfl ?_
        refine ar_get M_M_takeOver rfl rfl h56 rfl ?_
        refine ar_go M_M_takeOver 1 _ 117 _ [some (.ref 56), some (.int (nI k)), some (.int (nI (tkr T k))), some (.int (-1))] _ [.int (nI k), .ref 72, .int (nI (tkr T k)), .ref 56] rfl ?_
        refine ar_iald M_M_takeOver rfl (by unfold am_x0; omega) h72 (vp_in_nI (by omega) (by decide)) ?_
        rw [nI_clamp (n := k) (by omega)]
        refine ar_top (w := .int (nI ((ten T k).1 / 1024))) (congrArg Value.int q2) ?_
        refine ar_CV M_M_takeOver rfl rfl (Or.inl rfl) rfl rfl (Nat.le_of_ble_eq_true rfl) h56 M_M_insert (Nat.le_of_ble_eq_true rfl) (c_M_insert X d _ h560 ⟨h57, h58, h59, h60, h61⟩ hc0 t1 (by omega) hlr hh) (fun r1 h2 hq => ?_)
        obtain ⟨rfl, hf1, hm1, nu2, ve2, gr2, dr2, s1, s2, s3, s4, hA1⟩ := hq
        refine ⟨hf1.1, ?_⟩
        show ar Pg _ _ _ 121 [some (.ref 56), some (.int (nI k)), some (.int (nI (tkr T k))), some (.int (-1))] [.int (nI (64 * tkr T k + pos (tB B T k (tkr T k)) ((ten T k).1 / 1024)))] _ _
        refine ar_go M_M_takeOver 2 _ 126 _ [some (.ref 56), some (.int (nI k)), some (.int (nI (tkr T k))), some (.int (nI (64 * tkr T k + pos (tB B T k (tkr T k)) ((ten T k).1 / 1024))))] _ [] rfl ?_
        refine c_M_to_e X d h2 hm1 hA1 (hT1.mv hf1 (fun k _ _ => by simp; omega)) (by omega) (by omega) ?_
        intro h' hf hm hA
        have hst : stR (tB B T k (tkr T k)) (ten T k) = insP (tB B T k (tkr T k)) (pos (tB B T k (tkr T k)) ((ten T k).1 / 1024)) (1024 * ((ten T k).1 / 1024) + (ten T k).1 % 1024, (ten T k).2.1, (ten T k).2.2) := by unfold stR; rw [if_neg (by rw [hh]; decide), if_neg (by omega), hWd]
        rw [hst] at hgn
        refine ih (k + 1) h' _ _ (by omega) (by omega) ?_ hm (hF.tr (hf1.tr hf (l := [57, 58, 59, 60, 61]) (fun _ z => z) (by simp)) (fun _ z => z) (fun _ z => z))
        rw [tB, hst]
        exact ⟨_, _, _, _, _, hA, isMc_ins hc0 t1 hpl hlr (s1.nw (by omega) _) ((s2.nw (by omega) _).up (by omega) _) (s3.nw (by omega) _) (s4.nw (by omega) _) (by omega) hgn⟩
theorem c_M_takeOver (X : am_X) (d : Nat) (h : am_H) {B : Nat → Bk} {T : Tk} {s : Int64} {ud ld pr uD lD nd : Int32} (h56 : isM0 h s ud ld pr uD lD nd (nI T.length)) (hB : isMb h B) (hT : isT h T) (hok : okT T) : ar Pg X (d + 1) n_M_takeOver 0 [some (.ref 56), none, none, none] [] h (fun rr h' => rr = some (.int (if ∀ c, c < 4 → ovT B T c = false then nI T.length else -3)) ∧ fr [56, 57, 58, 59, 60, 61] h h' ∧ ((∀ c, c < 4 → ovT B T c = false) → isM0 h' (s + lN (2 * T.length)) ud ld pr uD lD nd (nI T.length) ∧ isMb h' (tB B T T.length)) ∧ ((¬ ∀ c, c < 4 → ovT B T c = false) → isM0 h' s ud ld pr uD lD nd (nI T.length) ∧ isMb h' B)) := by
  refine ar_go M_M_takeOver 2 _ 2 _ [some (.ref 56), some (.int (nI 0)), none, none] _ [] rfl ?_
  refine c_M_to_out X d h h56 hB hT hok ?_ (fun hx => ⟨by rw [if_neg (fun z => by obtain ⟨c, c1, c2⟩ := hx; rw [z c c1] at c2; exact absurd c2 (by decide))], fr.rf _ _, fun z => by obtain ⟨c, c1, c2⟩ := hx; rw [z c c1] at c2; exact absurd c2 (by decide), fun _ => ⟨h56, hB⟩⟩) 4 0 none none rfl (fun c hc => absurd hc (Nat.not_lt_zero _))
  intro hov x2 x3
  refine ar_go M_M_takeOver 2 _ 79 _ [some (.ref 56), some (.int (nI 0)), x2, x3] _ [] rfl ?_
  refine c_M_to_st X d h hT hok (fun c hc => (by obtain ⟨_, _, _, _, _, _, z⟩ := hB; exact (z c hc).2.1)) hov ?_ (T.length + 1) 0 h _ _ (by omega) (by omega) hB h56 (fr.rf _ _)
  clear h56 hB
  intro h1 x2 x3 hB h56 hF
  have hTl := hT.1
  unfold isM0 at h56
  refine ar_go M_M_takeOver 2 _ 170 _ [some (.ref 56), some (.int (nI T.length)), x2, x3] _ [.ref 56, .ref 56] rfl ?_
  refine ar_get M_M_takeOver rfl rfl h56 rfl ?_
  refine ar_go M_M_takeOver 2 _ 177 _ [some (.ref 56), some (.int (nI T.length)), x2, x3] _ [.ref 56, .long (lN 2), .long s, .ref 56] rfl ?_
  refine ar_get M_M_takeOver rfl rfl h56 rfl ?_
  refine ar_go M_M_takeOver 1 _ 181 _ [some (.ref 56), some (.int (nI T.length)), x2, x3] _ [.long ((nI (T.length)).toInt64), .long (lN 2), .long s, .ref 56] rfl ?_
  refine ar_top (w := .long (lN (T.length))) (congrArg Value.long (nI_l (by omega))) ?_
  refine ar_go M_M_takeOver 1 _ 182 _ [some (.ref 56), some (.int (nI T.length)), x2, x3] _ [.long (lN 2 * lN (T.length)), .long s, .ref 56] rfl ?_
  refine ar_top (w := .long (lN (2 * (T.length)))) (congrArg Value.long (lN_mul 2 (T.length))) ?_
  refine ar_go M_M_takeOver 1 _ 183 _ [some (.ref 56), some (.int (nI T.length)), x2, x3] _ [.long (s + lN (2 * (T.length))), .ref 56] rfl ?_
  refine ar_put M_M_takeOver rfl rfl h56 (Nat.le_of_ble_eq_true rfl) rfl (Nat.le_of_ble_eq_true rfl) (fun h2 hf he => ?_)
  have h56 : h2[56]? = some (.inr (5, [.ref 57, .ref 58, .ref 59, .ref 60, .ref 61, .long (s + lN (2 * (T.length))), .ref 62, .ref 63, .int ud, .int ld, .int pr, .ref 64, .ref 65, .ref 66, .ref 67, .int uD, .int lD, .ref 68, .ref 69, .ref 70, .int nd, .int (nI (T.length)), .ref 71, .ref 72, .ref 73, .ref 74, .ref 75])) := he
  refine ar_go M_M_takeOver 1 _ 187 _ [some (.ref 56), some (.int (nI T.length)), x2, x3] _ [.ref 56] rfl ?_
  refine ar_get M_M_takeOver rfl rfl h56 rfl ?_
  exact ar_R M_M_takeOver rfl rfl rfl rfl (⟨by rw [if_pos hov], (hF.mono (by simp)).tr hf (fun _ z => z) (by simp), fun _ => ⟨h56, hB.mv hf (fun k _ _ => by simp; omega)⟩, fun z => absurd hov z⟩)
