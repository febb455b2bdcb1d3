/-! The class: degree, factor; parcels -/
theorem rng_f {k n : Nat} (hk : n ≤ k) (hk2 : k < 2 ^ 31) : rng n (nI k) = false := by
  have b : am_c2 .ge (nI k) (nI n) = true := decide_eq_true ((nI_leI (by omega) hk2).mpr hk)
  simp [rng, b]
def prt (v : Int32) : Bool := am_c2 .eq v 0 || !am_c2 .ne v (nI 1)
theorem prt_ex {v : Int32} (h : prt v = true) : v = nI 0 ∨ v = nI 1 := by
  unfold prt at h
  rw [Bool.or_eq_true] at h
  rcases h with h | h
  · exact Or.inl (of_decide_eq_true h)
  · right
    rw [Bool.not_eq_true'] at h
    exact Decidable.not_not.mp (of_decide_eq_false h)
theorem prt_no {v : Int32} (h : prt v = false) : ¬ v = 0 ∧ ¬ v = 1 := by
  constructor
  · rintro rfl; exact absurd h (by decide)
  · rintro rfl; exact absurd h (by decide)
theorem c_B_isPart (X : am_X) (d : Nat) (h : am_H) (v : Int32) : ar Pg X d n_B_isPart 0 [some (.int v)] [] h (fun rr h' => rr = some (.int (bi (prt v))) ∧ h' = h) := by
  refine ar_go M_B_isPart 1 _ 1 _ [some (.int v)] _ [.int v] rfl ?_
  refine ar_if M_B_isPart rfl rfl (fun hc => ?_) (fun hc => ?_)
  · refine ar_go M_B_isPart 2 _ 14 _ [some (.int v)] _ [.int (nI 1)] rfl ?_
    exact ar_zret M_B_isPart rfl rfl (Or.inr rfl) (⟨by rw [show prt v = true by simp [prt, hc]]; rfl, rfl⟩)
  · refine ar_go M_B_isPart 2 _ 6 _ [some (.int v)] _ [.int (nI 1), .int v] rfl ?_
    refine ar_icmp M_B_isPart rfl rfl (fun hc2 => ?_) (fun hc2 => ?_)
    · refine ar_go M_B_isPart 1 _ 14 _ [some (.int v)] _ [.int (nI 0)] rfl ?_
      exact ar_zret M_B_isPart rfl rfl (Or.inl rfl) (⟨by rw [show prt v = false by simp [prt, hc, hc2]]; rfl, rfl⟩)
    · refine ar_go M_B_isPart 2 _ 14 _ [some (.int v)] _ [.int (nI 1)] rfl ?_
      exact ar_zret M_B_isPart rfl rfl (Or.inr rfl) (⟨by rw [show prt v = true by simp [prt, hc2]]; rfl, rfl⟩)
theorem c_B_degree (X : am_X) (d : Nat) (h : am_H) {B : Nat → Bk} {s : Int64} {u : Nat} {U : Nat → Nat} {l : Nat} {W : Nat → Nat} (hC : isCl h B s u U l W) (v : Int32) : ar Pg X (d + 1) n_B_degree 0 [some (.ref 0), some (.int v)] [] h (fun rr h' => rr = some (.int (dgR u l v)) ∧ h' = h) := by
  have hC0 := hC
  obtain ⟨h0, ⟨bf, hb1, hbf⟩, hK, hX, hPr⟩ := hC
  have h0 : h[0]? = some (.inr (0, [.ref 1, .ref 2, .ref 6, .ref 10, .long s])) := h0
  obtain ⟨U1, W1, hU1, hW1, hUe, hWe⟩ := hPr
  have hF := hX.1
  have hF0 := hF
  unfold isF at hF
  refine ar_go M_B_degree 1 _ 1 _ [some (.ref 0), some (.int v)] _ [.int v] rfl ?_
  refine ar_CS M_B_degree rfl rfl (Nat.le_of_ble_eq_true rfl) rfl rfl (Nat.le_of_ble_eq_true rfl) M_B_isPart (Nat.le_of_ble_eq_true rfl) (c_B_isPart X d _ v) (fun r1 h1 hq => ?_)
  obtain ⟨rfl, rfl⟩ := hq
  refine ⟨rfl, ?_⟩
  show ar Pg _ _ _ 4 [some (.ref 0), some (.int v)] [.int (bi (prt v))] _ _
  refine ar_if M_B_degree rfl rfl (fun hc => ?_) (fun hc => ?_)
  · have hc := bi_eq_t hc
    refine ar_go M_B_degree 1 _ 22 _ [some (.ref 0), some (.int v)] _ [.int (-1)] rfl ?_
    exact ar_R M_B_degree rfl rfl rfl rfl (⟨by have hp := prt_no hc; rw [dgR, if_neg hp.1, if_neg hp.2] <;> rfl, rfl⟩)
  · have hc := bi_eq_f hc
    rcases prt_ex hc with rfl | rfl
    · refine ar_go M_B_degree 1 _ 8 _ [some (.ref 0), some (.int (nI 0))] _ [.ref 0] rfl ?_
      refine ar_get M_B_degree rfl rfl h0 rfl ?_
      refine ar_go M_B_degree 1 _ 12 _ [some (.ref 0), some (.int (nI 0))] _ [.int (nI 0), .ref 10] rfl ?_
      refine ar_CV M_B_degree rfl rfl (Or.inl rfl) rfl rfl (Nat.le_of_ble_eq_true rfl) hF M_A_part (Nat.le_of_ble_eq_true rfl) (c_A_part0 X d _ hF0) (fun r1 h1 hq => ?_)
      obtain ⟨rfl, rfl⟩ := hq
      refine ⟨rfl, ?_⟩
      show ar Pg _ _ _ 15 [some (.ref 0), some (.int (nI 0))] [.ref 11] _ _
      refine ar_get M_B_degree rfl rfl hU1.2.1 rfl ?_
      refine ar_go M_B_degree 1 _ 22 _ [some (.ref 0), some (.int (nI 0))] _ [.int (nI u)] rfl ?_
      exact ar_R M_B_degree rfl rfl rfl rfl (⟨by show _ = some (Value.int (if (nI 0) = 0 then _ else _)); rw [if_pos (by decide)], rfl⟩)
    · refine ar_go M_B_degree 1 _ 8 _ [some (.ref 0), some (.int (nI 1))] _ [.ref 0] rfl ?_
      refine ar_get M_B_degree rfl rfl h0 rfl ?_
      refine ar_go M_B_degree 1 _ 12 _ [some (.ref 0), some (.int (nI 1))] _ [.int (nI 1), .ref 10] rfl ?_
      refine ar_CV M_B_degree rfl rfl (Or.inl rfl) rfl rfl (Nat.le_of_ble_eq_true rfl) hF M_A_part (Nat.le_of_ble_eq_true rfl) (c_A_part1 X d _ hF0) (fun r1 h1 hq => ?_)
      obtain ⟨rfl, rfl⟩ := hq
      refine ⟨rfl, ?_⟩
      show ar Pg _ _ _ 15 [some (.ref 0), some (.int (nI 1))] [.ref 13] _ _
      refine ar_get M_B_degree rfl rfl hW1.2.1 rfl ?_
      refine ar_go M_B_degree 1 _ 22 _ [some (.ref 0), some (.int (nI 1))] _ [.int (nI l)] rfl ?_
      exact ar_R M_B_degree rfl rfl rfl rfl (⟨by show _ = some (Value.int (if (nI 1) = 0 then _ else if (nI 1) = 1 then _ else _)); rw [if_neg (by decide), if_pos (by decide)], rfl⟩)
theorem fcR_0 {u l : Nat} {U W : Nat → Nat} {w : Int32} : fcR u U l W (nI 0) w = if rng (u + 1) w = true then nI (U w.toNatClampNeg) else -1 := by
  have h0 : nI 0 = 0 := by decide
  have h1 : ¬ nI 0 = 1 := by decide
  unfold fcR
  by_cases h : rng (u + 1) w = true
  · rw [if_pos ⟨h0, h⟩, if_pos h]
  · rw [if_neg (fun z => h z.2), if_neg (fun z => h1 z.1), if_neg h]
theorem fcR_1 {u l : Nat} {U W : Nat → Nat} {w : Int32} : fcR u U l W (nI 1) w = if rng (l + 1) w = true then nI (W w.toNatClampNeg) else -1 := by
  have h0 : ¬ nI 1 = 0 := by decide
  have h1 : nI 1 = 1 := by decide
  unfold fcR
  rw [if_neg (fun z => h0 z.1)]
  by_cases h : rng (l + 1) w = true
  · rw [if_pos ⟨h1, h⟩, if_pos h]
  · rw [if_neg (fun z => h z.2), if_neg h]
theorem c_B_factor (X : am_X) (d : Nat) (h : am_H) {B : Nat → Bk} {s : Int64} {u : Nat} {U : Nat → Nat} {l : Nat} {W : Nat → Nat} (hC : isCl h B s u U l W) (v w : Int32) : ar Pg X (d + 1) n_B_factor 0 [some (.ref 0), some (.int v), some (.int w)] [] h (fun rr h' => rr = some (.int (fcR u U l W v w)) ∧ h' = h) := by
  have hC0 := hC
  obtain ⟨h0, ⟨bf, hb1, hbf⟩, hK, hX, hPr⟩ := hC
  have h0 : h[0]? = some (.inr (0, [.ref 1, .ref 2, .ref 6, .ref 10, .long s])) := h0
  obtain ⟨U1, W1, hU1, hW1, hUe, hWe⟩ := hPr
  have hF := hX.1
  have hF0 := hF
  unfold isF at hF
  refine ar_go M_B_factor 1 _ 1 _ [some (.ref 0), some (.int v), some (.int w)] _ [.int v] rfl ?_
  refine ar_CS M_B_factor rfl rfl (Nat.le_of_ble_eq_true rfl) rfl rfl (Nat.le_of_ble_eq_true rfl) M_B_isPart (Nat.le_of_ble_eq_true rfl) (c_B_isPart X d _ v) (fun r1 h1 hq => ?_)
  obtain ⟨rfl, rfl⟩ := hq
  refine ⟨rfl, ?_⟩
  show ar Pg _ _ _ 4 [some (.ref 0), some (.int v), some (.int w)] [.int (bi (prt v))] _ _
  refine ar_if M_B_factor rfl rfl (fun hc => ?_) (fun hc => ?_)
  · have hc := bi_eq_t hc
    refine ar_go M_B_factor 1 _ 27 _ [some (.ref 0), some (.int v), some (.int w)] _ [.int (-1)] rfl ?_
    exact ar_R M_B_factor rfl rfl rfl rfl (⟨by have hp := prt_no hc; rw [fcR, if_neg (fun z => hp.1 z.1), if_neg (fun z => hp.2 z.1)] <;> rfl, rfl⟩)
  · have hc := bi_eq_f hc
    rcases prt_ex hc with rfl | rfl
    · have hd17 := hU1.1
      refine ar_go M_B_factor 1 _ 8 _ [some (.ref 0), some (.int (nI 0)), some (.int w)] _ [.int w] rfl ?_
      refine ar_if M_B_factor rfl rfl (fun hc2 => ?_) (fun hc2 => ?_)
      · refine ar_go M_B_factor 1 _ 27 _ [some (.ref 0), some (.int (nI 0)), some (.int w)] _ [.int (-1)] rfl ?_
        exact ar_R M_B_factor rfl rfl rfl rfl (⟨by rw [fcR_0, if_neg (by simp [rng, hc2])] <;> rfl, rfl⟩)
      · obtain ⟨k, hk, rfl⟩ := nn_ex hc2
        refine ar_go M_B_factor 2 _ 13 _ [some (.ref 0), some (.int (nI 0)), some (.int (nI k))] _ [.ref 0, .int (nI k)] rfl ?_
        refine ar_get M_B_factor rfl rfl h0 rfl ?_
        refine ar_go M_B_factor 1 _ 17 _ [some (.ref 0), some (.int (nI 0)), some (.int (nI k))] _ [.int (nI 0), .ref 10, .int (nI k)] rfl ?_
        refine ar_CV M_B_factor rfl rfl (Or.inl rfl) rfl rfl (Nat.le_of_ble_eq_true rfl) hF M_A_part (Nat.le_of_ble_eq_true rfl) (c_A_part0 X d _ hF0) (fun r1 h1 hq => ?_)
        obtain ⟨rfl, rfl⟩ := hq
        refine ⟨rfl, ?_⟩
        show ar Pg _ _ _ 20 [some (.ref 0), some (.int (nI 0)), some (.int (nI k))] [.ref 11, .int (nI k)] _ _
        refine ar_get M_B_factor rfl rfl hU1.2.1 rfl ?_
        refine ar_icmp M_B_factor rfl rfl (fun hc3 => ?_) (fun hc3 => ?_)
        · have hc3 := c2_le_t (a := k) (b := u) (by omega) (by omega) hc3
          have hlk := hU1.2.2.2 k (by omega)
          refine ar_go M_B_factor 1 _ 29 _ [some (.ref 0), some (.int (nI 0)), some (.int (nI k))] _ [.ref 0] rfl ?_
          refine ar_get M_B_factor rfl rfl h0 rfl ?_
          refine ar_go M_B_factor 1 _ 33 _ [some (.ref 0), some (.int (nI 0)), some (.int (nI k))] _ [.int (nI 0), .ref 10] rfl ?_
          refine ar_CV M_B_factor rfl rfl (Or.inl rfl) rfl rfl (Nat.le_of_ble_eq_true rfl) hF M_A_part (Nat.le_of_ble_eq_true rfl) (c_A_part0 X d _ hF0) (fun r1 h1 hq => ?_)
          obtain ⟨rfl, rfl⟩ := hq
          refine ⟨rfl, ?_⟩
          show ar Pg _ _ _ 36 [some (.ref 0), some (.int (nI 0)), some (.int (nI k))] [.ref 11] _ _
          refine ar_get M_B_factor rfl rfl hU1.2.1 rfl ?_
          refine ar_go M_B_factor 1 _ 40 _ [some (.ref 0), some (.int (nI 0)), some (.int (nI k))] _ [.int (nI k), .ref 12] rfl ?_
          refine ar_lald M_B_factor rfl hU1.2.2.1 (vp_in_nI (by omega) (by decide)) ?_
          rw [nI_clamp (n := k) (by omega)]
          refine ar_go M_B_factor 1 _ 42 _ [some (.ref 0), some (.int (nI 0)), some (.int (nI k))] _ [.int ((lN (U1 k)).toInt32)] rfl ?_
          refine ar_top (w := .int (nI (U1 k))) (congrArg Value.int (lN_i (U1 k))) ?_
          exact ar_R M_B_factor rfl rfl rfl rfl (⟨by rw [fcR_0, if_pos (rng_t (by omega) (by omega)), nI_clamp hk, hUe k (by omega)], rfl⟩)
        · have hc3 := c2_le_f (a := k) (b := u) (by omega) (by omega) hc3
          refine ar_go M_B_factor 1 _ 27 _ [some (.ref 0), some (.int (nI 0)), some (.int (nI k))] _ [.int (-1)] rfl ?_
          exact ar_R M_B_factor rfl rfl rfl rfl (⟨by rw [fcR_0, if_neg (by rw [rng_f (by omega) hk]; decide)] <;> rfl, rfl⟩)
    · have hd17 := hW1.1
      refine ar_go M_B_factor 1 _ 8 _ [some (.ref 0), some (.int (nI 1)), some (.int w)] _ [.int w] rfl ?_
      refine ar_if M_B_factor rfl rfl (fun hc2 => ?_) (fun hc2 => ?_)
      · refine ar_go M_B_factor 1 _ 27 _ [some (.ref 0), some (.int (nI 1)), some (.int w)] _ [.int (-1)] rfl ?_
        exact ar_R M_B_factor rfl rfl rfl rfl (⟨by rw [fcR_1, if_neg (by simp [rng, hc2])] <;> rfl, rfl⟩)
      · obtain ⟨k, hk, rfl⟩ := nn_ex hc2
        refine ar_go M_B_factor 2 _ 13 _ [some (.ref 0), some (.int (nI 1)), some (.int (nI k))] _ [.ref 0, .int (nI k)] rfl ?_
        refine ar_get M_B_factor rfl rfl h0 rfl ?_
        refine ar_go M_B_factor 1 _ 17 _ [some (.ref 0), some (.int (nI 1)), some (.int (nI k))] _ [.int (nI 1), .ref 10, .int (nI k)] rfl ?_
        refine ar_CV M_B_factor rfl rfl (Or.inl rfl) rfl rfl (Nat.le_of_ble_eq_true rfl) hF M_A_part (Nat.le_of_ble_eq_true rfl) (c_A_part1 X d _ hF0) (fun r1 h1 hq => ?_)
        obtain ⟨rfl, rfl⟩ := hq
        refine ⟨rfl, ?_⟩
        show ar Pg _ _ _ 20 [some (.ref 0), some (.int (nI 1)), some (.int (nI k))] [.ref 13, .int (nI k)] _ _
        refine ar_get M_B_factor rfl rfl hW1.2.1 rfl ?_
        refine ar_icmp M_B_factor rfl rfl (fun hc3 => ?_) (fun hc3 => ?_)
        · have hc3 := c2_le_t (a := k) (b := l) (by omega) (by omega) hc3
          have hlk := hW1.2.2.2 k (by omega)
          refine ar_go M_B_factor 1 _ 29 _ [some (.ref 0), some (.int (nI 1)), some (.int (nI k))] _ [.ref 0] rfl ?_
          refine ar_get M_B_factor rfl rfl h0 rfl ?_
          refine ar_go M_B_factor 1 _ 33 _ [some (.ref 0), some (.int (nI 1)), some (.int (nI k))] _ [.int (nI 1), .ref 10] rfl ?_
          refine ar_CV M_B_factor rfl rfl (Or.inl rfl) rfl rfl (Nat.le_of_ble_eq_true rfl) hF M_A_part (Nat.le_of_ble_eq_true rfl) (c_A_part1 X d _ hF0) (fun r1 h1 hq => ?_)
          obtain ⟨rfl, rfl⟩ := hq
          refine ⟨rfl, ?_⟩
          show ar Pg _ _ _ 36 [some (.ref 0), some (.int (nI 1)), some (.int (nI k))] [.ref 13] _ _
          refine ar_get M_B_factor rfl rfl hW1.2.1 rfl ?_
          refine ar_go M_B_factor 1 _ 40 _ [some (.ref 0), some (.int (nI 1)), some (.int (nI k))] _ [.int (nI k), .ref 14] rfl ?_
          refine ar_lald M_B_factor rfl hW1.2.2.1 (vp_in_nI (by omega) (by decide)) ?_
          rw [nI_clamp (n := k) (by omega)]
          refine ar_go M_B_factor 1 _ 42 _ [some (.ref 0), some (.int (nI 1)), some (.int (nI k))] _ [.int ((lN (W1 k)).toInt32)] rfl ?_
          refine ar_top (w := .int (nI (W1 k))) (congrArg Value.int (lN_i (W1 k))) ?_
          exact ar_R M_B_factor rfl rfl rfl rfl (⟨by rw [fcR_1, if_pos (rng_t (by omega) (by omega)), nI_clamp hk, hWe k (by omega)], rfl⟩)
        · have hc3 := c2_le_f (a := k) (b := l) (by omega) (by omega) hc3
          refine ar_go M_B_factor 1 _ 27 _ [some (.ref 0), some (.int (nI 1)), some (.int (nI k))] _ [.int (-1)] rfl ?_
          exact ar_R M_B_factor rfl rfl rfl rfl (⟨by rw [fcR_1, if_neg (by rw [rng_f (by omega) hk]; decide)] <;> rfl, rfl⟩)
theorem isCl.snt {h h1 : am_H} {B : Nat → Bk} {s : Int64} {u : Nat} {U : Nat → Nat} {l : Nat} {W : Nat → Nat} {s2 : Int64} (H : isCl h B s u U l W) (hf : fr [0] h h1) (h0 : isB0 h1 s2) : isCl h1 B s2 u U l W :=
  ⟨h0, H.2.1.mv hf (by simp), H.2.2.1.mv hf (fun k _ _ => by simp; omega), H.2.2.2.1.mv hf (fun k _ _ => by simp; omega) (fun k _ _ => by simp; omega), H.2.2.2.2.mv hf (fun k _ _ => by simp; omega)⟩
theorem isCl.par1 {h h1 : am_H} {B : Nat → Bk} {s : Int64} {u : Nat} {U : Nat → Nat} {l : Nat} {W : Nat → Nat} {o : Bk} (H : isCl h B s u U l W) (hf : fr [2, 2 + 1, 2 + 2, 2 + 3] h h1) (hR : isR h1 2 o) : isCl h1 B s u U l W := by
  obtain ⟨h0, h1', hK, hX, hP⟩ := H
  refine ⟨hf.at h0 (by simp), h1'.mv hf (by simp), hK.mv hf (fun k _ _ => by simp; omega), ?_, hP.mv hf (fun k _ _ => by simp; omega)⟩
  obtain ⟨a, b, ⟨l2, c⟩, ⟨k, A, d⟩, ⟨k2, A2, e⟩, ⟨ro, c0, M, uk, g⟩, ⟨SA, i, i2⟩, SB, j, j2⟩ := hX
  exact ⟨hf.at a (by simp), ⟨o, hR⟩, ⟨l2, c.fr hf (by simp) (by simp) (by simp) (by simp)⟩, ⟨k, A, d.fr hf (by simp) (by simp)⟩, ⟨k2, A2, e.fr hf (by simp) (by simp)⟩, ⟨ro, c0, M, uk, g.mv hf (fun k _ _ => by simp; omega)⟩, ⟨SA, hf.at i (by simp), i2⟩, SB, hf.at j (by simp), j2⟩
theorem isCl.par2 {h h1 : am_H} {B : Nat → Bk} {s : Int64} {u : Nat} {U : Nat → Nat} {l : Nat} {W : Nat → Nat} {o : Bk} (H : isCl h B s u U l W) (hf : fr [6, 6 + 1, 6 + 2, 6 + 3] h h1) (hR : isR h1 6 o) : isCl h1 B s u U l W := by
  obtain ⟨h0, h1', hK, hX, hP⟩ := H
  refine ⟨hf.at h0 (by simp), h1'.mv hf (by simp), hK.mv hf (fun k _ _ => by simp; omega), ?_, hP.mv hf (fun k _ _ => by simp; omega)⟩
  obtain ⟨a, ⟨l2, c⟩, b, ⟨k, A, d⟩, ⟨k2, A2, e⟩, ⟨ro, c0, M, uk, g⟩, ⟨SA, i, i2⟩, SB, j, j2⟩ := hX
  exact ⟨hf.at a (by simp), ⟨l2, c.fr hf (by simp) (by simp) (by simp) (by simp)⟩, ⟨o, hR⟩, ⟨k, A, d.fr hf (by simp) (by simp)⟩, ⟨k2, A2, e.fr hf (by simp) (by simp)⟩, ⟨ro, c0, M, uk, g.mv hf (fun k _ _ => by simp; omega)⟩, ⟨SA, hf.at i (by simp), i2⟩, SB, hf.at j (by simp), j2⟩
theorem fil_V {P : Nat → Bool} {o : Bk} (hV : bkV o) : ∀ n, n ≤ o.length → bkV (fil P o n)
  | 0, _ => fun i hi => absurd hi (Nat.not_lt_zero _)
  | n + 1, hn => by
    have ih := fil_V (P := P) hV n (by omega)
    by_cases h : P n = true
    · rw [fil_t h]
      intro i hi
      rw [List.length_append, List.length_singleton] at hi
      by_cases e : i = (fil P o n).length
      · subst e
        rw [(app_wl _ _).1]
        exact hV n (by omega)
      · rw [(app_wd (by omega)).1]
        exact ih i (by omega)
    · rw [fil_f (by simpa using h)]
      exact ih
theorem stA_V {l o : Bk} (hl : l.length ≤ 64) (hS : bkS l) (hV : bkV l) (hV2 : bkV o) : ∀ i, i ≤ o.length → bkV (stA l o i)
  | 0, _ => hV
  | i + 1, h => stR_V (stA_ok hl hS hV.W hV2.W i (by omega)).2.1 (stA_V hl hS hV hV2 i (by omega)) (hV2 i (by omega))
def kn (p l : Bk) : Bk := fil (knB p l) p p.length
def ovf (l k : Bk) : Bool := decide (64 < l.length + cntB (nwB l k) k.length)
def dlF (la lb p1 p2 : Bk) : Bool := ovf la (kn p1 la) || ovf lb (kn p2 lb)
def dlR (la lb p1 p2 : Bk) : Int32 := if dlF la lb p1 p2 = true then -3 else nI ((kn p1 la).length + (kn p2 lb).length)
def dlB (B : Nat → Bk) (a b : Nat) (p1 p2 : Bk) : Nat → Bk := if dlF (B a) (B b) p1 p2 = true then B else updB (updB B a (stA (B a) (kn p1 (B a)) (kn p1 (B a)).length)) b (stA (B b) (kn p2 (B b)) (kn p2 (B b)).length)
theorem par1_cl : ∀ k, k ∈ [2, 2 + 1, 2 + 2, 2 + 3] → k ∈ clL := by decide
theorem par2_cl : ∀ k, k ∈ [6, 6 + 1, 6 + 2, 6 + 3] → k ∈ clL := by decide
theorem c_B_deliverParcels (X : am_X) (d : Nat) (h : am_H) {B : Nat → Bk} {s : Int64} {u : Nat} {U : Nat → Nat} {l : Nat} {W : Nat → Nat} (hC : isCl h B s u U l W) {a b : Nat} {p1 p2 : Bk} (ha : a < 4) (hb : b < 4) (hne : a ≠ b) (hP1 : isR h 2 p1) (hP2 : isR h 6 p2) (hV1 : bkV p1) (hV2 : bkV p2) : ar Pg X (d + 1 + 1 + 1) n_B_deliverParcels 0 [some (.ref 0), some (.ref (40 + 4 * a)), some (.ref (40 + 4 * b))] [] h (fun rr h' => rr = some (.int (dlR (B a) (B b) p1 p2)) ∧ isCl h' (dlB B a b p1 p2) s u U l W ∧ fr clL h h') := by
  obtain ⟨hRa, hSa, hVa⟩ := hC.2.2.1 a ha
  obtain ⟨hRb, hSb, hVb⟩ := hC.2.2.1 b hb
  have hWa := hVa.W
  have hWb := hVb.W
  refine ar_go M_B_deliverParcels 1 _ 1 _ [some (.ref 0), some (.ref (40 + 4 * a)), some (.ref (40 + 4 * b))] _ [.ref 0] rfl ?_
  refine ar_get M_B_deliverParcels rfl rfl hC.1 rfl ?_
  refine ar_go M_B_deliverParcels 1 _ 5 _ [some (.ref 0), some (.ref (40 + 4 * a)), some (.ref (40 + 4 * b))] _ [.ref (40 + 4 * a), .ref 2] rfl ?_
  refine ar_CV M_B_deliverParcels rfl rfl (Or.inl rfl) rfl rfl (Nat.le_of_ble_eq_true rfl) hP1.2.1 M_R_keepNewsFor (Nat.le_of_ble_eq_true rfl) (c_R_keepNewsFor X (d + 1) _ (r := 2) (s := 40 + 4 * a) hRa hP1.1 (by omega) (by omega) (by omega) hSa hWa hV1.W hP1) (fun r1 h2 hq => ?_)
  obtain ⟨rfl, hf1, hP1⟩ := hq
  refine ⟨hf1.1, ?_⟩
  have hC := hC.par1 hf1 hP1
  have hP2 := hP2.fr hf1 (by simp) (by simp) (by simp) (by simp)
  have hRb := (hC.2.2.1 b hb).1
  show ar Pg _ _ _ 8 [some (.ref 0), some (.ref (40 + 4 * a)), some (.ref (40 + 4 * b))] [] _ _
  refine ar_go M_B_deliverParcels 1 _ 9 _ [some (.ref 0), some (.ref (40 + 4 * a)), some (.ref (40 + 4 * b))] _ [.ref 0] rfl ?_
  refine ar_get M_B_deliverParcels rfl rfl hC.1 rfl ?_
  refine ar_go M_B_deliverParcels 1 _ 13 _ [some (.ref 0), some (.ref (40 + 4 * a)), some (.ref (40 + 4 * b))] _ [.ref (40 + 4 * b), .ref 6] rfl ?_
  refine ar_CV M_B_deliverParcels rfl rfl (Or.inl rfl) rfl rfl (Nat.le_of_ble_eq_true rfl) hP2.2.1 M_R_keepNewsFor (Nat.le_of_ble_eq_true rfl) (c_R_keepNewsFor X (d + 1) _ (r := 6) (s := 40 + 4 * b) hRb hP2.1 (by omega) (by omega) (by omega) hSb hWb hV2.W hP2) (fun r1 h3 hq => ?_)
  obtain ⟨rfl, hf2, hP2⟩ := hq
  refine ⟨hf2.1, ?_⟩
  have hC := hC.par2 hf2 hP2
  have hP1 := hP1.fr hf2 (by simp) (by simp) (by simp) (by simp)
  have hRa := (hC.2.2.1 a ha).1
  have hRb := (hC.2.2.1 b hb).1
  have hF2 : fr clL h h3 := (hf1.mono par1_cl).tr (hf2.mono par2_cl) (fun _ z => z) (fun _ z => z)
  have hVk1 : bkV (kn p1 (B a)) := fil_V hV1 _ (Nat.le_refl _)
  have hVk2 : bkV (kn p2 (B b)) := fil_V hV2 _ (Nat.le_refl _)
  change isR _ 2 (kn p1 (B a)) at hP1
  change isR _ 6 (kn p2 (B b)) at hP2
  show ar Pg _ _ _ 16 [some (.ref 0), some (.ref (40 + 4 * a)), some (.ref (40 + 4 * b))] [] _ _
  have c1 := cntB_le (nwB (B a) (kn p1 (B a))) (kn p1 (B a)).length
  have c2 := cntB_le (nwB (B b) (kn p2 (B b))) (kn p2 (B b)).length
  have l1 := hP1.1
  have l2 := hP2.1
  have l3 := hRa.1
  have l4 := hRb.1
  refine ar_go M_B_deliverParcels 2 _ 18 _ [some (.ref 0), some (.ref (40 + 4 * a)), some (.ref (40 + 4 * b))] _ [.ref 0, .ref (40 + 4 * a)] rfl ?_
  refine ar_get M_B_deliverParcels rfl rfl hC.1 rfl ?_
  refine ar_CV M_B_deliverParcels rfl rfl (Or.inl rfl) rfl rfl (Nat.le_of_ble_eq_true rfl) (hC.2.2.1 a ha).1.2.1 M_R_countWith (Nat.le_of_ble_eq_true rfl) (c_R_countWith X (d + 1) _ hRa hP1 (by omega) (by omega) hSa hWa hVk1.W) (fun r1 h1 hq => ?_)
  obtain ⟨rfl, rfl⟩ := hq
  refine ⟨rfl, ?_⟩
  show ar Pg _ _ _ 24 [some (.ref 0), some (.ref (40 + 4 * a)), some (.ref (40 + 4 * b))] [.int (nI ((B a).length + cntB (nwB (B a) (kn p1 (B a))) (kn p1 (B a)).length))] _ _
  refine ar_go M_B_deliverParcels 1 _ 26 _ [some (.ref 0), some (.ref (40 + 4 * a)), some (.ref (40 + 4 * b))] _ [.int (nI 64), .int (nI ((B a).length + cntB (nwB (B a) (kn p1 (B a))) (kn p1 (B a)).length))] rfl ?_
  refine ar_icmp M_B_deliverParcels rfl rfl (fun hc => ?_) (fun hc => ?_)
  · have hc := c2_gt_t (a := ((B a).length + cntB (nwB (B a) (kn p1 (B a))) (kn p1 (B a)).length)) (b := 64) (by omega) (by omega) hc
    have hff : dlF (B a) (B b) p1 p2 = true := by unfold dlF; rw [show ovf (B a) (kn p1 (B a)) = true from decide_eq_true hc, Bool.true_or]
    refine ar_go M_B_deliverParcels 1 _ 44 _ [some (.ref 0), some (.ref (40 + 4 * a)), some (.ref (40 + 4 * b))] _ [.int (-3)] rfl ?_
    exact ar_R M_B_deliverParcels rfl rfl rfl rfl (⟨by rw [dlR, if_pos hff] <;> rfl, by rw [dlB, if_pos hff]; exact hC, hF2⟩)
  · have hc := c2_gt_f (a := ((B a).length + cntB (nwB (B a) (kn p1 (B a))) (kn p1 (B a)).length)) (b := 64) (by omega) (by omega) hc
    have ho1 : ovf (B a) (kn p1 (B a)) = false := decide_eq_false (by omega)
    refine ar_go M_B_deliverParcels 2 _ 31 _ [some (.ref 0), some (.ref (40 + 4 * a)), some (.ref (40 + 4 * b))] _ [.ref 0, .ref (40 + 4 * b)] rfl ?_
    refine ar_get M_B_deliverParcels rfl rfl hC.1 rfl ?_
    refine ar_CV M_B_deliverParcels rfl rfl (Or.inl rfl) rfl rfl (Nat.le_of_ble_eq_true rfl) (hC.2.2.1 b hb).1.2.1 M_R_countWith (Nat.le_of_ble_eq_true rfl) (c_R_countWith X (d + 1) _ hRb hP2 (by omega) (by omega) hSb hWb hVk2.W) (fun r1 h1 hq => ?_)
    obtain ⟨rfl, rfl⟩ := hq
    refine ⟨rfl, ?_⟩
    show ar Pg _ _ _ 37 [some (.ref 0), some (.ref (40 + 4 * a)), some (.ref (40 + 4 * b))] [.int (nI ((B b).length + cntB (nwB (B b) (kn p2 (B b))) (kn p2 (B b)).length))] _ _
    refine ar_go M_B_deliverParcels 1 _ 39 _ [some (.ref 0), some (.ref (40 + 4 * a)), some (.ref (40 + 4 * b))] _ [.int (nI 64), .int (nI ((B b).length + cntB (nwB (B b) (kn p2 (B b))) (kn p2 (B b)).length))] rfl ?_
    refine ar_icmp M_B_deliverParcels rfl rfl (fun hc2 => ?_) (fun hc2 => ?_)
    · have hc2 := c2_le_t (a := ((B b).length + cntB (nwB (B b) (kn p2 (B b))) (kn p2 (B b)).length)) (b := 64) (by omega) (by omega) hc2
      have ho2 : ovf (B b) (kn p2 (B b)) = false := decide_eq_false (by omega)
      have hff : dlF (B a) (B b) p1 p2 = false := by unfold dlF; rw [ho1, ho2]; rfl
      refine ar_go M_B_deliverParcels 2 _ 47 _ [some (.ref 0), some (.ref (40 + 4 * a)), some (.ref (40 + 4 * b))] _ [.ref 0, .ref (40 + 4 * a)] rfl ?_
      refine ar_get M_B_deliverParcels rfl rfl hC.1 rfl ?_
      refine ar_CV M_B_deliverParcels rfl rfl (Or.inl rfl) rfl rfl (Nat.le_of_ble_eq_true rfl) (hC.2.2.1 a ha).1.2.1 M_R_storeAll (Nat.le_of_ble_eq_true rfl) (c_R_storeAll X d _ hRa hP1 (by omega) (by omega) (by omega) hSa hWa hVk1.W) (fun r1 h4 hq => ?_)
      obtain ⟨rfl, hf3, hRa⟩ := hq
      refine ⟨hf3.1, ?_⟩
      obtain ⟨q1, q2, q3⟩ := stA_ok l3 hSa hWa hVk1.W (kn p1 (B a)).length (Nat.le_refl _)
      have hC := hC.bank ha hf3 hRa q2 (stA_V l3 hSa hVa hVk1 _ (Nat.le_refl _))
      have hP1 := hP1.fr hf3 (by simp; omega) (by simp; omega) (by simp; omega) (by simp; omega)
      have hP2 := hP2.fr hf3 (by simp; omega) (by simp; omega) (by simp; omega) (by simp; omega)
      have hRb := hRb.fr hf3 (by simp; omega) (by simp; omega) (by simp; omega) (by simp; omega)
      show ar Pg _ _ _ 53 [some (.ref 0), some (.ref (40 + 4 * a)), some (.ref (40 + 4 * b))] [] _ _
      refine ar_go M_B_deliverParcels 2 _ 55 _ [some (.ref 0), some (.ref (40 + 4 * a)), some (.ref (40 + 4 * b))] _ [.ref 0, .ref (40 + 4 * b)] rfl ?_
      refine ar_get M_B_deliverParcels rfl rfl hC.1 rfl ?_
      refine ar_CV M_B_deliverParcels rfl rfl (Or.inl rfl) rfl rfl (Nat.le_of_ble_eq_true rfl) hRb.2.1 M_R_storeAll (Nat.le_of_ble_eq_true rfl) (c_R_storeAll X d _ hRb hP2 (by omega) (by omega) (by omega) hSb hWb hVk2.W) (fun r1 h5 hq => ?_)
      obtain ⟨rfl, hf4, hRb⟩ := hq
      refine ⟨hf4.1, ?_⟩
      obtain ⟨q1, q2, q3⟩ := stA_ok l4 hSb hWb hVk2.W (kn p2 (B b)).length (Nat.le_refl _)
      have hC := hC.bank hb hf4 hRb q2 (stA_V l4 hSb hVb hVk2 _ (Nat.le_refl _))
      have hP1 := hP1.fr hf4 (by simp; omega) (by simp; omega) (by simp; omega) (by simp; omega)
      have hP2 := hP2.fr hf4 (by simp; omega) (by simp; omega) (by simp; omega) (by simp; omega)
      show ar Pg _ _ _ 61 [some (.ref 0), some (.ref (40 + 4 * a)), some (.ref (40 + 4 * b))] [] _ _
      refine ar_go M_B_deliverParcels 1 _ 62 _ [some (.ref 0), some (.ref (40 + 4 * a)), some (.ref (40 + 4 * b))] _ [.ref 0] rfl ?_
      refine ar_get M_B_deliverParcels rfl rfl hC.1 rfl ?_
      refine ar_get M_B_deliverParcels rfl rfl hP1.2.1 rfl ?_
      refine ar_go M_B_deliverParcels 1 _ 69 _ [some (.ref 0), some (.ref (40 + 4 * a)), some (.ref (40 + 4 * b))] _ [.ref 0, .int (nI ((kn p1 (B a)).length))] rfl ?_
      refine ar_get M_B_deliverParcels rfl rfl hC.1 rfl ?_
      refine ar_get M_B_deliverParcels rfl rfl hP2.2.1 rfl ?_
      refine ar_go M_B_deliverParcels 1 _ 76 _ [some (.ref 0), some (.ref (40 + 4 * a)), some (.ref (40 + 4 * b))] _ [.int (nI ((kn p1 (B a)).length) + nI ((kn p2 (B b)).length))] rfl ?_
      refine ar_top (w := .int (nI (((kn p1 (B a)).length) + ((kn p2 (B b)).length)))) (congrArg Value.int (nI_add ((kn p1 (B a)).length) ((kn p2 (B b)).length))) ?_
      exact ar_R M_B_deliverParcels rfl rfl rfl rfl (⟨by rw [dlR, if_neg (by rw [hff]; decide)] <;> rfl, by rw [dlB, if_neg (by rw [hff]; decide)]; exact hC, (hF2.tr (hf3.mono (bank_cl ha)) (fun _ z => z) (fun _ z => z)).tr (hf4.mono (bank_cl hb)) (fun _ z => z) (fun _ z => z)⟩)
    · have hc2 := c2_le_f (a := ((B b).length + cntB (nwB (B b) (kn p2 (B b))) (kn p2 (B b)).length)) (b := 64) (by omega) (by omega) hc2
      have hff : dlF (B a) (B b) p1 p2 = true := by unfold dlF; rw [show ovf (B b) (kn p2 (B b)) = true from decide_eq_true hc2, Bool.or_true]
      refine ar_go M_B_deliverParcels 1 _ 44 _ [some (.ref 0), some (.ref (40 + 4 * a)), some (.ref (40 + 4 * b))] _ [.int (-3)] rfl ?_
      exact ar_R M_B_deliverParcels rfl rfl rfl rfl (⟨by rw [dlR, if_pos hff] <;> rfl, by rw [dlB, if_pos hff]; exact hC, hF2⟩)
def alB (o : Bk) : Bk := fil (fun _ => true) o o.length
theorem c_B_runListing (X : am_X) (d : Nat) (h : am_H) {B : Nat → Bk} {s : Int64} {u : Nat} {U : Nat → Nat} {l : Nat} {W : Nat → Nat} (hC : isCl h B s u U l W) {a b : Nat} (ha : a < 4) (hb : b < 4) (hne : a ≠ b) : ar Pg X (d + 1 + 1 + 1 + 1) n_B_runListing 0 [some (.ref 0), some (.ref (40 + 4 * a)), some (.ref (40 + 4 * b))] [] h (fun rr h' => rr = some (.int (dlR (B a) (B b) (alB (B b)) (alB (B a)))) ∧ isCl h' (dlB B a b (alB (B b)) (alB (B a))) (s + lN (2 * ((B a).length + (B b).length))) u U l W ∧ fr clL h h') := by
  obtain ⟨hRa, hSa, hVa⟩ := hC.2.2.1 a ha
  obtain ⟨hRb, hSb, hVb⟩ := hC.2.2.1 b hb
  have l3 := hRa.1
  have l4 := hRb.1
  obtain ⟨_, ⟨l1, hP1⟩, ⟨l2, hP2⟩, _⟩ := hC.2.2.2.1
  refine ar_go M_B_runListing 2 _ 2 _ [some (.ref 0), some (.ref (40 + 4 * a)), some (.ref (40 + 4 * b))] _ [.ref 0, .ref 0] rfl ?_
  refine ar_get M_B_runListing rfl rfl hC.1 rfl ?_
  refine ar_go M_B_runListing 2 _ 7 _ [some (.ref 0), some (.ref (40 + 4 * a)), some (.ref (40 + 4 * b))] _ [.ref (40 + 4 * a), .int (nI 2), .long s, .ref 0] rfl ?_
  refine ar_get M_B_runListing rfl rfl (hC.2.2.1 a ha).1.2.1 rfl ?_
  refine ar_go M_B_runListing 1 _ 11 _ [some (.ref 0), some (.ref (40 + 4 * a)), some (.ref (40 + 4 * b))] _ [.ref (40 + 4 * b), .int (nI ((B a).length)), .int (nI 2), .long s, .ref 0] rfl ?_
  refine ar_get M_B_runListing rfl rfl (hC.2.2.1 b hb).1.2.1 rfl ?_
  refine ar_go M_B_runListing 1 _ 15 _ [some (.ref 0), some (.ref (40 + 4 * a)), some (.ref (40 + 4 * b))] _ [.int (nI ((B a).length) + nI ((B b).length)), .int (nI 2), .long s, .ref 0] rfl ?_
  refine ar_top (w := .int (nI (((B a).length) + ((B b).length)))) (congrArg Value.int (nI_add ((B a).length) ((B b).length))) ?_
  refine ar_go M_B_runListing 1 _ 16 _ [some (.ref 0), some (.ref (40 + 4 * a)), some (.ref (40 + 4 * b))] _ [.int (nI 2 * nI (((B a).length) + ((B b).length))), .long s, .ref 0] rfl ?_
  refine ar_top (w := .int (nI (2 * (((B a).length) + ((B b).length))))) (congrArg Value.int (pk_mul 2 (((B a).length) + ((B b).length)))) ?_
  refine ar_go M_B_runListing 1 _ 17 _ [some (.ref 0), some (.ref (40 + 4 * a)), some (.ref (40 + 4 * b))] _ [.long ((nI (2 * (((B a).length) + ((B b).length)))).toInt64), .long s, .ref 0] rfl ?_
  refine ar_top (w := .long (lN (2 * (((B a).length) + ((B b).length))))) (congrArg Value.long (nI_l (by omega))) ?_
  refine ar_go M_B_runListing 1 _ 18 _ [some (.ref 0), some (.ref (40 + 4 * a)), some (.ref (40 + 4 * b))] _ [.long (s + lN (2 * (((B a).length) + ((B b).length)))), .ref 0] rfl ?_
  have h0 : h[0]? = some (.inr (0, [.ref 1, .ref 2, .ref 6, .ref 10, .long s])) := hC.1
  refine ar_put M_B_runListing rfl rfl h0 (Nat.le_of_ble_eq_true rfl) rfl (Nat.le_of_ble_eq_true rfl) (fun h2 hf he => ?_)
  have h0 : h2[0]? = some (.inr (0, [.ref 1, .ref 2, .ref 6, .ref 10, .long (s + lN (2 * (((B a).length) + ((B b).length))))])) := he
  have hf0 := hf
  have hC := hC.snt hf0 h0
  have hP1 := hP1.fr hf0 (by simp) (by simp) (by simp) (by simp)
  have hRb := (hC.2.2.1 b hb).1
  refine ar_go M_B_runListing 1 _ 22 _ [some (.ref 0), some (.ref (40 + 4 * a)), some (.ref (40 + 4 * b))] _ [.ref 0] rfl ?_
  refine ar_get M_B_runListing rfl rfl hC.1 rfl ?_
  refine ar_go M_B_runListing 1 _ 26 _ [some (.ref 0), some (.ref (40 + 4 * a)), some (.ref (40 + 4 * b))] _ [.ref (40 + 4 * b), .ref 2] rfl ?_
  refine ar_CV M_B_runListing rfl rfl (Or.inl rfl) rfl rfl (Nat.le_of_ble_eq_true rfl) hP1.2.1 M_R_becomeAllOf (Nat.le_of_ble_eq_true rfl) (c_R_becomeAllOf X (d + 1 + 1) _ (r := 2) (s := 40 + 4 * b) hRb (by omega) (by omega) (by omega) hP1) (fun r1 h3 hq => ?_)
  obtain ⟨rfl, hf1, hP1⟩ := hq
  refine ⟨hf1.1, ?_⟩
  have hC := hC.par1 hf1 hP1
  have hRa := (hC.2.2.1 a ha).1
  have hP2 := (hP2.fr hf0 (by simp) (by simp) (by simp) (by simp)).fr hf1 (by simp) (by simp) (by simp) (by simp)
  show ar Pg _ _ _ 29 [some (.ref 0), some (.ref (40 + 4 * a)), some (.ref (40 + 4 * b))] [] _ _
  refine ar_go M_B_runListing 1 _ 30 _ [some (.ref 0), some (.ref (40 + 4 * a)), some (.ref (40 + 4 * b))] _ [.ref 0] rfl ?_
  refine ar_get M_B_runListing rfl rfl hC.1 rfl ?_
  refine ar_go M_B_runListing 1 _ 34 _ [some (.ref 0), some (.ref (40 + 4 * a)), some (.ref (40 + 4 * b))] _ [.ref (40 + 4 * a), .ref 6] rfl ?_
  refine ar_CV M_B_runListing rfl rfl (Or.inl rfl) rfl rfl (Nat.le_of_ble_eq_true rfl) hP2.2.1 M_R_becomeAllOf (Nat.le_of_ble_eq_true rfl) (c_R_becomeAllOf X (d + 1 + 1) _ (r := 6) (s := 40 + 4 * a) hRa (by omega) (by omega) (by omega) hP2) (fun r1 h4 hq => ?_)
  obtain ⟨rfl, hf2, hP2⟩ := hq
  refine ⟨hf2.1, ?_⟩
  have hC := hC.par2 hf2 hP2
  have hP1 := hP1.fr hf2 (by simp) (by simp) (by simp) (by simp)
  show ar Pg _ _ _ 37 [some (.ref 0), some (.ref (40 + 4 * a)), some (.ref (40 + 4 * b))] [] _ _
  refine ar_go M_B_runListing 3 _ 40 _ [some (.ref 0), some (.ref (40 + 4 * a)), some (.ref (40 + 4 * b))] _ [.ref (40 + 4 * b), .ref (40 + 4 * a), .ref 0] rfl ?_
  refine ar_CV M_B_runListing rfl rfl (Or.inl rfl) rfl rfl (Nat.le_of_ble_eq_true rfl) hC.1 M_B_deliverParcels (Nat.le_of_ble_eq_true rfl) (c_B_deliverParcels X d _ hC ha hb hne hP1 hP2 (fil_V hVb _ (Nat.le_refl _)) (fil_V hVa _ (Nat.le_refl _))) (fun r1 h5 hq => ?_)
  obtain ⟨rfl, hC5, hf5⟩ := hq
  refine ⟨hf5.1, ?_⟩
  show ar Pg _ _ _ 43 [some (.ref 0), some (.ref (40 + 4 * a)), some (.ref (40 + 4 * b))] [.int (dlR (B a) (B b) (alB (B b)) (alB (B a)))] _ _
  exact ar_R M_B_runListing rfl rfl rfl rfl (⟨rfl, hC5, (((hf0.mono (by decide)).tr (hf1.mono par1_cl) (fun _ z => z) (fun _ z => z)).tr (hf2.mono par2_cl) (fun _ z => z) (fun _ z => z)).tr hf5 (fun _ z => z) (fun _ z => z)⟩)
