/-! The reference: degree, factor, lacks, difference -/
theorem c_M_degree (X : am_X) (d : Nat) (h : am_H) {s : Int64} {pr uD lD nd tn : Int32} {u l : Nat} (h56 : isM0 h s (nI u) (nI l) pr uD lD nd tn) (v : Int32) : ar Pg X d n_M_degree 0 [some (.ref 56), some (.int v)] [] h (fun rr h' => rr = some (.int (dgR u l v)) ∧ h' = h) := by
  unfold isM0 at h56
  refine ar_go M_M_degree 1 _ 1 _ [some (.ref 56), some (.int v)] _ [.int v] rfl ?_
  refine ar_if M_M_degree rfl rfl (fun hc => ?_) (fun hc => ?_)
  · have hc : ¬ v = 0 := of_decide_eq_true hc
    refine ar_go M_M_degree 2 _ 13 _ [some (.ref 56), some (.int v)] _ [.int (nI 1), .int v] rfl ?_
    refine ar_icmp M_M_degree rfl rfl (fun hc2 => ?_) (fun hc2 => ?_)
    · have hc2 : ¬ v = 1 := of_decide_eq_true hc2
      refine ar_go M_M_degree 1 _ 24 _ [some (.ref 56), some (.int v)] _ [.int (-1)] rfl ?_
      exact ar_R M_M_degree rfl rfl rfl rfl (⟨by rw [dgR, if_neg hc, if_neg hc2] <;> rfl, rfl⟩)
    · have hc2 : v = 1 := Decidable.not_not.mp (of_decide_eq_false hc2)
      refine ar_go M_M_degree 1 _ 17 _ [some (.ref 56), some (.int v)] _ [.ref 56] rfl ?_
      refine ar_get M_M_degree rfl rfl h56 rfl ?_
      refine ar_go M_M_degree 1 _ 24 _ [some (.ref 56), some (.int v)] _ [.int (nI l)] rfl ?_
      exact ar_R M_M_degree rfl rfl rfl rfl (⟨by rw [dgR, if_neg hc, if_pos hc2], rfl⟩)
  · have hc : v = 0 := Decidable.not_not.mp (of_decide_eq_false hc)
    refine ar_go M_M_degree 1 _ 5 _ [some (.ref 56), some (.int v)] _ [.ref 56] rfl ?_
    refine ar_get M_M_degree rfl rfl h56 rfl ?_
    refine ar_go M_M_degree 1 _ 24 _ [some (.ref 56), some (.int v)] _ [.int (nI u)] rfl ?_
    exact ar_R M_M_degree rfl rfl rfl rfl (⟨by rw [dgR, if_pos hc], rfl⟩)
theorem c_M_factor (X : am_X) (d : Nat) (h : am_H) {s : Int64} {pr uD lD nd tn : Int32} {u l : Nat} {U W U1 W1 : Nat → Nat} (h56 : isM0 h s (nI u) (nI l) pr uD lD nd tn) (h62 : isLA h 62 17 U1) (h63 : isLA h 63 17 W1) (hu : u ≤ 16) (hl : l ≤ 16) (hlU1 : lt17 U1) (hlW1 : lt17 W1) (hUe : ∀ i, i ≤ u → U1 i = U i) (hWe : ∀ i, i ≤ l → W1 i = W i) (v w : Int32) : ar Pg X d n_M_factor 0 [some (.ref 56), some (.int v), some (.int w)] [] h (fun rr h' => rr = some (.int (fcR u U l W v w)) ∧ h' = h) := by
  unfold isM0 at h56
  unfold isLA at h62 h63
  refine ar_go M_M_factor 1 _ 1 _ [some (.ref 56), some (.int v), some (.int w)] _ [.int w] rfl ?_
  refine ar_if M_M_factor rfl rfl (fun hc => ?_) (fun hc => ?_)
  · refine ar_go M_M_factor 1 _ 33 _ [some (.ref 56), some (.int v), some (.int w)] _ [.int (-1)] rfl ?_
    exact ar_R M_M_factor rfl rfl rfl rfl (⟨by rw [fcR, if_neg (fun z => by simp [rng, hc] at z), if_neg (fun z => by simp [rng, hc] at z)] <;> rfl, rfl⟩)
  · obtain ⟨k, hk, rfl⟩ := nn_ex hc
    refine ar_go M_M_factor 1 _ 5 _ [some (.ref 56), some (.int v), some (.int (nI k))] _ [.int v] rfl ?_
    refine ar_if M_M_factor rfl rfl (fun hc2 => ?_) (fun hc2 => ?_)
    · refine ar_go M_M_factor 1 _ 33 _ [some (.ref 56), some (.int v), some (.int (nI k))] _ [.int (-1)] rfl ?_
      exact ar_R M_M_factor rfl rfl rfl rfl (⟨by rw [fcR, if_neg (fun z => by rw [z.1] at hc2; exact absurd hc2 (by decide)), if_neg (fun z => by rw [z.1] at hc2; exact absurd hc2 (by decide))] <;> rfl, rfl⟩)
    · obtain ⟨j, hj, rfl⟩ := nn_ex hc2
      refine ar_go M_M_factor 2 _ 10 _ [some (.ref 56), some (.int (nI j)), some (.int (nI k))] _ [.int (nI 1), .int (nI j)] rfl ?_
      refine ar_icmp M_M_factor rfl rfl (fun hc3 => ?_) (fun hc3 => ?_)
      · have hc3 := c2_gt_t (a := j) (b := 1) (by omega) (by omega) hc3
        refine ar_go M_M_factor 1 _ 33 _ [some (.ref 56), some (.int (nI j)), some (.int (nI k))] _ [.int (-1)] rfl ?_
        exact ar_R M_M_factor rfl rfl rfl rfl (⟨by rw [fcR, if_neg (fun z => by have z := (nI_eq (b := 0) hj (by decide)).mp z.1; omega), if_neg (fun z => by have z := (nI_eq (b := 1) hj (by decide)).mp z.1; omega)] <;> rfl, rfl⟩)
      · have hc3 := c2_gt_f (a := j) (b := 1) (by omega) (by omega) hc3
        have hj2 : j = 0 ∨ j = 1 := by omega
        rcases hj2 with rfl | rfl
        · have hl17 := hlU1 k
          refine ar_go M_M_factor 2 _ 15 _ [some (.ref 56), some (.int (nI 0)), some (.int (nI k))] _ [.int (nI 0), .int (nI k)] rfl ?_
          refine ar_if M_M_factor rfl rfl (fun z => absurd z (by decide)) (fun _ => ?_)
          refine ar_go M_M_factor 1 _ 19 _ [some (.ref 56), some (.int (nI 0)), some (.int (nI k))] _ [.ref 56, .int (nI k)] rfl ?_
          refine ar_get M_M_factor rfl rfl h56 rfl ?_
          refine ar_go M_M_factor 1 _ 29 _ [some (.ref 56), some (.int (nI 0)), some (.int (nI k))] _ [.int (nI u), .int (nI k)] rfl ?_
          refine ar_icmp M_M_factor rfl rfl (fun hc4 => ?_) (fun hc4 => ?_)
          · have hc4 := c2_le_t (a := k) (b := u) (by omega) (by omega) hc4
            have hl17 := hl17 (by omega)
            refine ar_go M_M_factor 1 _ 35 _ [some (.ref 56), some (.int (nI 0)), some (.int (nI k))] _ [.int (nI 0)] rfl ?_
            refine ar_if M_M_factor rfl rfl (fun z => absurd z (by decide)) (fun _ => ?_)
            refine ar_go M_M_factor 1 _ 39 _ [some (.ref 56), some (.int (nI 0)), some (.int (nI k))] _ [.ref 56] rfl ?_
            refine ar_get M_M_factor rfl rfl h56 rfl ?_
            refine ar_go M_M_factor 1 _ 43 _ [some (.ref 56), some (.int (nI 0)), some (.int (nI k))] _ [.int (nI k), .ref 62] rfl ?_
            refine ar_lald M_M_factor rfl h62 (vp_in_nI (by omega) (by decide)) ?_
            rw [nI_clamp (n := k) (by omega)]
            refine ar_go M_M_factor 2 _ 54 _ [some (.ref 56), some (.int (nI 0)), some (.int (nI k))] _ [.int ((lN (U1 k)).toInt32)] rfl ?_
            refine ar_top (w := .int (nI (U1 k))) (congrArg Value.int (lN_i (U1 k))) ?_
            exact ar_R M_M_factor rfl rfl rfl rfl (⟨by rw [fcR_0, if_pos (rng_t (by omega) (by omega)), nI_clamp hk, hUe k (by omega)], rfl⟩)
          · have hc4 := c2_le_f (a := k) (b := u) (by omega) (by omega) hc4
            refine ar_go M_M_factor 1 _ 33 _ [some (.ref 56), some (.int (nI 0)), some (.int (nI k))] _ [.int (-1)] rfl ?_
            exact ar_R M_M_factor rfl rfl rfl rfl (⟨by rw [fcR_0, if_neg (by rw [rng_f (by omega) hk]; decide)] <;> rfl, rfl⟩)
        · have hl17 := hlW1 k
          refine ar_go M_M_factor 2 _ 15 _ [some (.ref 56), some (.int (nI 1)), some (.int (nI k))] _ [.int (nI 1), .int (nI k)] rfl ?_
          refine ar_if M_M_factor rfl rfl (fun _ => ?_) (fun z => absurd z (by decide))
          refine ar_go M_M_factor 1 _ 26 _ [some (.ref 56), some (.int (nI 1)), some (.int (nI k))] _ [.ref 56, .int (nI k)] rfl ?_
          refine ar_get M_M_factor rfl rfl h56 rfl ?_
          refine ar_icmp M_M_factor rfl rfl (fun hc4 => ?_) (fun hc4 => ?_)
          · have hc4 := c2_le_t (a := k) (b := l) (by omega) (by omega) hc4
            have hl17 := hl17 (by omega)
            refine ar_go M_M_factor 1 _ 35 _ [some (.ref 56), some (.int (nI 1)), some (.int (nI k))] _ [.int (nI 1)] rfl ?_
            refine ar_if M_M_factor rfl rfl (fun _ => ?_) (fun z => absurd z (by decide))
            refine ar_go M_M_factor 1 _ 48 _ [some (.ref 56), some (.int (nI 1)), some (.int (nI k))] _ [.ref 56] rfl ?_
            refine ar_get M_M_factor rfl rfl h56 rfl ?_
            refine ar_go M_M_factor 1 _ 52 _ [some (.ref 56), some (.int (nI 1)), some (.int (nI k))] _ [.int (nI k), .ref 63] rfl ?_
            refine ar_lald M_M_factor rfl h63 (vp_in_nI (by omega) (by decide)) ?_
            rw [nI_clamp (n := k) (by omega)]
            refine ar_go M_M_factor 1 _ 54 _ [some (.ref 56), some (.int (nI 1)), some (.int (nI k))] _ [.int ((lN (W1 k)).toInt32)] rfl ?_
            refine ar_top (w := .int (nI (W1 k))) (congrArg Value.int (lN_i (W1 k))) ?_
            exact ar_R M_M_factor rfl rfl rfl rfl (⟨by rw [fcR_1, if_pos (rng_t (by omega) (by omega)), nI_clamp hk, hWe k (by omega)], rfl⟩)
          · have hc4 := c2_le_f (a := k) (b := l) (by omega) (by omega) hc4
            refine ar_go M_M_factor 1 _ 33 _ [some (.ref 56), some (.int (nI 1)), some (.int (nI k))] _ [.int (-1)] rfl ?_
            exact ar_R M_M_factor rfl rfl rfl rfl (⟨by rw [fcR_1, if_neg (by rw [rng_f (by omega) hk]; decide)] <;> rfl, rfl⟩)
def lkB (la lb : Bk) (i : Nat) : Bool := !shB la lb i
theorem c_M_lk_loop (X : am_X) (d : Nat) (h : am_H) {B : Nat → Bk} {s : Int64} {ud ld pr uD lD nd tn : Int32} (h56 : isM0 h s ud ld pr uD lD nd tn) (hB : isMb h B) {a b : Nat} (ha : a < 4) (hb : b < 4) : ∀ (n i : Nat) (x5 : Option Value), (B a).length - i < n → i ≤ (B a).length → ar Pg X (d + 1) n_M_lacks 8 [some (.ref 56), some (.int (nI a)), some (.int (nI b)), some (.int (nI (cntB (lkB (B a) (B b)) i))), some (.int (nI (64 * a + i))), x5] [] h (fun rr h' => rr = some (.int (nI (cntB (lkB (B a) (B b)) (B a).length))) ∧ h' = h) := by
  have hB0 := hB
  obtain ⟨sz, nu, ve, gr, dr, ⟨h57, h58, h59, h60, h61⟩, hc0⟩ := hB
  have h560 := h56
  unfold isM0 at h56
  intro n
  induction n with
  | zero => intro i x5 hi; omega
  | succ n ih =>
    intro i x5 hi hil
    obtain ⟨hsa, ⟨hla, hSa, hVa⟩, hfaa⟩ := hc0 a ha
    obtain ⟨hsb, ⟨hlb, hSb, hVb⟩, hfab⟩ := hc0 b hb
    have hcl := cntB_le (lkB (B a) (B b)) i
    refine ar_go M_M_lacks 4 _ 14 _ [some (.ref 56), some (.int (nI a)), some (.int (nI b)), some (.int (nI (cntB (lkB (B a) (B b)) i))), some (.int (nI (64 * a + i))), x5] _ [.int (nI 64 * nI a), .int (nI (64 * a + i))] rfl ?_
    refine ar_top (w := .int (nI (64 * a))) (congrArg Value.int (pk_mul 64 a)) ?_
    refine ar_go M_M_lacks 1 _ 15 _ [some (.ref 56), some (.int (nI a)), some (.int (nI b)), some (.int (nI (cntB (lkB (B a) (B b)) i))), some (.int (nI (64 * a + i))), x5] _ [.ref 56, .int (nI (64 * a)), .int (nI (64 * a + i))] rfl ?_
    refine ar_get M_M_lacks rfl rfl h56 rfl ?_
    refine ar_go M_M_lacks 1 _ 19 _ [some (.ref 56), some (.int (nI a)), some (.int (nI b)), some (.int (nI (cntB (lkB (B a) (B b)) i))), some (.int (nI (64 * a + i))), x5] _ [.int (nI a), .ref 57, .int (nI (64 * a)), .int (nI (64 * a + i))] rfl ?_
    refine ar_iald M_M_lacks rfl (by unfold am_x0; omega) h57 (vp_in_nI (by omega) (by decide)) ?_
    rw [nI_clamp (n := a) (by omega)]
    refine ar_top (w := .int (nI ((B a).length))) (congrArg Value.int hsa) ?_
    refine ar_go M_M_lacks 1 _ 21 _ [some (.ref 56), some (.int (nI a)), some (.int (nI b)), some (.int (nI (cntB (lkB (B a) (B b)) i))), some (.int (nI (64 * a + i))), x5] _ [.int (nI (64 * a) + nI ((B a).length)), .int (nI (64 * a + i))] rfl ?_
    refine ar_top (w := .int (nI ((64 * a) + ((B a).length)))) (congrArg Value.int (nI_add (64 * a) ((B a).length))) ?_
    refine ar_icmp M_M_lacks rfl rfl (fun hc => ?_) (fun hc => ?_)
    · have hc := c2_ge_t (a := (64 * a + i)) (b := ((64 * a) + ((B a).length))) (by omega) (by omega) hc
      have hi2 : i = (B a).length := by omega
      refine ar_go M_M_lacks 1 _ 75 _ [some (.ref 56), some (.int (nI a)), some (.int (nI b)), some (.int (nI (cntB (lkB (B a) (B b)) i))), some (.int (nI (64 * a + i))), x5] _ [.int (nI (cntB (lkB (B a) (B b)) i))] rfl ?_
      exact ar_R M_M_lacks rfl rfl rfl rfl (⟨by rw [hi2], rfl⟩)
    · have hc := c2_ge_f (a := (64 * a + i)) (b := ((64 * a) + ((B a).length))) (by omega) (by omega) hc
      have hvi := hVa i (by omega)
      obtain ⟨e1, e2, e3, e4⟩ := hfaa i (by omega)
      refine ar_go M_M_lacks 3 _ 27 _ [some (.ref 56), some (.int (nI a)), some (.int (nI b)), some (.int (nI (cntB (lkB (B a) (B b)) i))), some (.int (nI (64 * a + i))), x5] _ [.ref 56, .int (nI b), .ref 56] rfl ?_
      refine ar_get M_M_lacks rfl rfl h56 rfl ?_
      refine ar_go M_M_lacks 1 _ 32 _ [some (.ref 56), some (.int (nI a)), some (.int (nI b)), some (.int (nI (cntB (lkB (B a) (B b)) i))), some (.int (nI (64 * a + i))), x5] _ [.int (nI (64 * a + i)), .ref 58, .int (nI b), .ref 56] rfl ?_
      refine ar_iald M_M_lacks rfl (by unfold am_x0; omega) h58 (vp_in_nI (by omega) (by decide)) ?_
      rw [nI_clamp (n := (64 * a + i)) (by omega)]
      refine ar_top (w := .int (nI (wd (B a) i / 1024))) (congrArg Value.int e1) ?_
      refine ar_CV M_M_lacks rfl rfl (Or.inl rfl) rfl rfl (Nat.le_of_ble_eq_true rfl) h56 M_M_find (Nat.le_of_ble_eq_true rfl) (c_M_find X d _ h560 hB0 hb (by omega)) (fun r1 h1 hq => ?_)
      obtain ⟨rfl, rfl⟩ := hq
      refine ⟨rfl, ?_⟩
      show ar Pg _ _ _ 36 [some (.ref 56), some (.int (nI a)), some (.int (nI b)), some (.int (nI (cntB (lkB (B a) (B b)) i))), some (.int (nI (64 * a + i))), x5] [.int (fnR (B b) b (wd (B a) i / 1024))] _ _
      have hpl := (pos_pl (B b) (wd (B a) i / 1024) hSb).1
      by_cases hh : hasAt (B b) (pos (B b) (wd (B a) i / 1024)) (wd (B a) i / 1024) = true
      · obtain ⟨p, hpe⟩ : ∃ p, p = pos (B b) (wd (B a) i / 1024) := ⟨_, rfl⟩
        rw [fnR, ← hpe, if_pos (by rw [hpe]; exact hh)]
        rw [← hpe] at hh hpl
        have hp := hasAt_iff.mp hh
        have hvp := hVb p hp.1
        obtain ⟨g1, g2, g3, g4⟩ := hfab p hp.1
        refine ar_go M_M_lacks 3 _ 41 _ [some (.ref 56), some (.int (nI a)), some (.int (nI b)), some (.int (nI (cntB (lkB (B a) (B b)) i))), some (.int (nI (64 * a + i))), some (.int (nI (64 * b + p)))] _ [.int (nI (64 * b + p)), .int (nI (cntB (lkB (B a) (B b)) i))] rfl ?_
        refine ar_if M_M_lacks rfl rfl (fun z => absurd (of_decide_eq_true z) (nI_pos (by omega))) (fun _ => ?_)
        refine ar_go M_M_lacks 1 _ 45 _ [some (.ref 56), some (.int (nI a)), some (.int (nI b)), some (.int (nI (cntB (lkB (B a) (B b)) i))), some (.int (nI (64 * a + i))), some (.int (nI (64 * b + p)))] _ [.ref 56, .int (nI (cntB (lkB (B a) (B b)) i))] rfl ?_
        refine ar_get M_M_lacks rfl rfl h56 rfl ?_
        refine ar_go M_M_lacks 1 _ 50 _ [some (.ref 56), some (.int (nI a)), some (.int (nI b)), some (.int (nI (cntB (lkB (B a) (B b)) i))), some (.int (nI (64 * a + i))), some (.int (nI (64 * b + p)))] _ [.int (nI (64 * b + p)), .ref 59, .int (nI (cntB (lkB (B a) (B b)) i))] rfl ?_
        refine ar_iald M_M_lacks rfl (by unfold am_x0; omega) h59 (vp_in_nI (by omega) (by decide)) ?_
        rw [nI_clamp (n := (64 * b + p)) (by omega)]
        refine ar_top (w := .int (nI (wd (B b) p % 1024))) (congrArg Value.int g2) ?_
        refine ar_go M_M_lacks 1 _ 52 _ [some (.ref 56), some (.int (nI a)), some (.int (nI b)), some (.int (nI (cntB (lkB (B a) (B b)) i))), some (.int (nI (64 * a + i))), some (.int (nI (64 * b + p)))] _ [.ref 56, .int (nI (wd (B b) p % 1024)), .int (nI (cntB (lkB (B a) (B b)) i))] rfl ?_
        refine ar_get M_M_lacks rfl rfl h56 rfl ?_
        refine ar_go M_M_lacks 1 _ 57 _ [some (.ref 56), some (.int (nI a)), some (.int (nI b)), some (.int (nI (cntB (lkB (B a) (B b)) i))), some (.int (nI (64 * a + i))), some (.int (nI (64 * b + p)))] _ [.int (nI (64 * a + i)), .ref 59, .int (nI (wd (B b) p % 1024)), .int (nI (cntB (lkB (B a) (B b)) i))] rfl ?_
        refine ar_iald M_M_lacks rfl (by unfold am_x0; omega) h59 (vp_in_nI (by omega) (by decide)) ?_
        rw [nI_clamp (n := (64 * a + i)) (by omega)]
        refine ar_top (w := .int (nI (wd (B a) i % 1024))) (congrArg Value.int e2) ?_
        refine ar_icmp M_M_lacks rfl rfl (fun hc2 => ?_) (fun hc2 => ?_)
        · have hc2 := c2_eq_t (a := (wd (B b) p % 1024)) (b := (wd (B a) i % 1024)) (by omega) (by omega) hc2
          refine ar_go M_M_lacks 2 _ 67 _ [some (.ref 56), some (.int (nI a)), some (.int (nI b)), some (.int (nI (cntB (lkB (B a) (B b)) i))), some (.int (nI (64 * a + i))), some (.int (nI (64 * b + p)))] _ [.int (nI (cntB (lkB (B a) (B b)) i) + nI 0)] rfl ?_
          refine ar_top (w := .int (nI ((cntB (lkB (B a) (B b)) i) + 0))) (congrArg Value.int (nI_add (cntB (lkB (B a) (B b)) i) 0)) ?_
          refine ar_go M_M_lacks 1 _ 68 _ [some (.ref 56), some (.int (nI a)), some (.int (nI b)), some (.int (nI ((cntB (lkB (B a) (B b)) i) + 0))), some (.int (nI (64 * a + i))), some (.int (nI (64 * b + p)))] _ [] rfl ?_
          refine ar_go M_M_lacks 1 _ 71 _ [some (.ref 56), some (.int (nI a)), some (.int (nI b)), some (.int (nI ((cntB (lkB (B a) (B b)) i) + 0))), some (.int (nI (64 * a + i) + Int32.ofInt 1)), some (.int (nI (64 * b + p)))] _ [] rfl ?_
          rw [show nI (64 * a + i) + Int32.ofInt 1 = nI ((64 * a + i) + 1) from nI_add (64 * a + i) 1]
          refine ar_go M_M_lacks 1 _ 8 _ [some (.ref 56), some (.int (nI a)), some (.int (nI b)), some (.int (nI ((cntB (lkB (B a) (B b)) i) + 0))), some (.int (nI ((64 * a + i) + 1))), some (.int (nI (64 * b + p)))] _ [] rfl ?_
          have hnx : cntB (lkB (B a) (B b)) (i + 1) = cntB (lkB (B a) (B b)) i + 0 := by rw [cntB, show lkB (B a) (B b) i = false by unfold lkB shB; rw [← hpe, decide_eq_true hp.1, decide_eq_true (show wd (B b) p = wd (B a) i by have := hp.2; omega)]; rfl]; rfl
          rw [← hnx]
          exact ih (i + 1) _ (by omega) (by omega)
        · have hc2 := c2_eq_f (a := (wd (B b) p % 1024)) (b := (wd (B a) i % 1024)) (by omega) (by omega) hc2
          refine ar_go M_M_lacks 3 _ 67 _ [some (.ref 56), some (.int (nI a)), some (.int (nI b)), some (.int (nI (cntB (lkB (B a) (B b)) i))), some (.int (nI (64 * a + i))), some (.int (nI (64 * b + p)))] _ [.int (nI (cntB (lkB (B a) (B b)) i) + nI 1)] rfl ?_
          refine ar_top (w := .int (nI ((cntB (lkB (B a) (B b)) i) + 1))) (congrArg Value.int (nI_add (cntB (lkB (B a) (B b)) i) 1)) ?_
          refine ar_go M_M_lacks 1 _ 68 _ [some (.ref 56), some (.int (nI a)), some (.int (nI b)), some (.int (nI ((cntB (lkB (B a) (B b)) i) + 1))), some (.int (nI (64 * a + i))), some (.int (nI (64 * b + p)))] _ [] rfl ?_
          refine ar_go M_M_lacks 1 _ 71 _ [some (.ref 56), some (.int (nI a)), some (.int (nI b)), some (.int (nI ((cntB (lkB (B a) (B b)) i) + 1))), some (.int (nI (64 * a + i) + Int32.ofInt 1)), some (.int (nI (64 * b + p)))] _ [] rfl ?_
          rw [show nI (64 * a + i) + Int32.ofInt 1 = nI ((64 * a + i) + 1) from nI_add (64 * a + i) 1]
          refine ar_go M_M_lacks 1 _ 8 _ [some (.ref 56), some (.int (nI a)), some (.int (nI b)), some (.int (nI ((cntB (lkB (B a) (B b)) i) + 1))), some (.int (nI ((64 * a + i) + 1))), some (.int (nI (64 * b + p)))] _ [] rfl ?_
          have hnx : cntB (lkB (B a) (B b)) (i + 1) = cntB (lkB (B a) (B b)) i + 1 := by rw [cntB, show lkB (B a) (B b) i = true by unfold lkB shB; rw [← hpe, decide_eq_false (show ¬ wd (B b) p = wd (B a) i from fun z => hc2 (by rw [z])), Bool.and_false]; rfl]; rfl
          rw [← hnx]
          exact ih (i + 1) _ (by omega) (by omega)
      · rw [fnR, if_neg hh]
        refine ar_go M_M_lacks 3 _ 41 _ [some (.ref 56), some (.int (nI a)), some (.int (nI b)), some (.int (nI (cntB (lkB (B a) (B b)) i))), some (.int (nI (64 * a + i))), some (.int (-1))] _ [.int (-1), .int (nI (cntB (lkB (B a) (B b)) i))] rfl ?_
        refine ar_if M_M_lacks rfl rfl (fun _ => ?_) (fun z => absurd z (by decide))
        refine ar_go M_M_lacks 3 _ 67 _ [some (.ref 56), some (.int (nI a)), some (.int (nI b)), some (.int (nI (cntB (lkB (B a) (B b)) i))), some (.int (nI (64 * a + i))), some (.int (-1))] _ [.int (nI (cntB (lkB (B a) (B b)) i) + nI 1)] rfl ?_
        refine ar_top (w := .int (nI ((cntB (lkB (B a) (B b)) i) + 1))) (congrArg Value.int (nI_add (cntB (lkB (B a) (B b)) i) 1)) ?_
        refine ar_go M_M_lacks 1 _ 68 _ [some (.ref 56), some (.int (nI a)), some (.int (nI b)), some (.int (nI ((cntB (lkB (B a) (B b)) i) + 1))), some (.int (nI (64 * a + i))), some (.int (-1))] _ [] rfl ?_
        refine ar_go M_M_lacks 1 _ 71 _ [some (.ref 56), some (.int (nI a)), some (.int (nI b)), some (.int (nI ((cntB (lkB (B a) (B b)) i) + 1))), some (.int (nI (64 * a + i) + Int32.ofInt 1)), some (.int (-1))] _ [] rfl ?_
        rw [show nI (64 * a + i) + Int32.ofInt 1 = nI ((64 * a + i) + 1) from nI_add (64 * a + i) 1]
        refine ar_go M_M_lacks 1 _ 8 _ [some (.ref 56), some (.int (nI a)), some (.int (nI b)), some (.int (nI ((cntB (lkB (B a) (B b)) i) + 1))), some (.int (nI ((64 * a + i) + 1))), some (.int (-1))] _ [] rfl ?_
        have hnx : cntB (lkB (B a) (B b)) (i + 1) = cntB (lkB (B a) (B b)) i + 1 := by rw [cntB, show lkB (B a) (B b) i = true by unfold lkB shB; rw [Bool.not_eq_true', Bool.and_eq_false_iff]; exact (Nat.lt_or_ge (pos (B b) (wd (B a) i / 1024)) (B b).length).elim (fun z => Or.inr (decide_eq_false (fun y => hh (hasAt_iff.mpr ⟨z, by rw [y]⟩)))) (fun z => Or.inl (decide_eq_false (Nat.not_lt.mpr z)))]; rfl
        rw [← hnx]
        exact ih (i + 1) _ (by omega) (by omega)
theorem c_M_lacks (X : am_X) (d : Nat) (h : am_H) {B : Nat → Bk} {s : Int64} {ud ld pr uD lD nd tn : Int32} (h56 : isM0 h s ud ld pr uD lD nd tn) (hB : isMb h B) {a b : Nat} (ha : a < 4) (hb : b < 4) : ar Pg X (d + 1) n_M_lacks 0 [some (.ref 56), some (.int (nI a)), some (.int (nI b)), none, none, none] [] h (fun rr h' => rr = some (.int (nI (cntB (lkB (B a) (B b)) (B a).length))) ∧ h' = h) := by
  refine ar_go M_M_lacks 5 _ 6 _ [some (.ref 56), some (.int (nI a)), some (.int (nI b)), some (.int (nI 0)), none, none] _ [.int (nI 64 * nI a)] rfl ?_
  refine ar_top (w := .int (nI (64 * a))) (congrArg Value.int (pk_mul 64 a)) ?_
  refine ar_go M_M_lacks 1 _ 8 _ [some (.ref 56), some (.int (nI a)), some (.int (nI b)), some (.int (nI 0)), some (.int (nI (64 * a))), none] _ [] rfl ?_
  exact c_M_lk_loop X d h h56 hB ha hb ((B a).length + 1) 0 none (by omega) (by omega)
theorem c_M_difference (X : am_X) (d : Nat) (h : am_H) {B : Nat → Bk} {s : Int64} {ud ld pr uD lD nd tn : Int32} (h56 : isM0 h s ud ld pr uD lD nd tn) (hB : isMb h B) (v w : Int32) : ar Pg X (d + 1 + 1) n_M_difference 0 [some (.ref 56), some (.int v), some (.int w)] [] h (fun rr h' => rr = some (.int (if twB v w = true then nI (cntB (lkB (B v.toNatClampNeg) (B w.toNatClampNeg)) (B v.toNatClampNeg).length + cntB (lkB (B w.toNatClampNeg) (B v.toNatClampNeg)) (B w.toNatClampNeg).length) else -1)) ∧ h' = h) := by
  have hB0 := hB
  obtain ⟨sz, nu, ve, gr, dr, ⟨h57, h58, h59, h60, h61⟩, hc0⟩ := hB
  have h560 := h56
  unfold isM0 at h56
  refine ar_go M_M_difference 2 _ 2 _ [some (.ref 56), some (.int v), some (.int w)] _ [.int w, .int v] rfl ?_
  refine ar_CS M_M_difference rfl rfl (Nat.le_of_ble_eq_true rfl) rfl rfl (Nat.le_of_ble_eq_true rfl) M_M_areTwo (Nat.le_of_ble_eq_true rfl) (c_M_areTwo X d _ v w) (fun r1 h1 hq => ?_)
  obtain ⟨rfl, rfl⟩ := hq
  refine ⟨rfl, ?_⟩
  show ar Pg _ _ _ 5 [some (.ref 56), some (.int v), some (.int w)] [.int (bi (twB v w))] _ _
  refine ar_if M_M_difference rfl rfl (fun hc => ?_) (fun hc => ?_)
  · have hc := bi_eq_t hc
    refine ar_go M_M_difference 1 _ 25 _ [some (.ref 56), some (.int v), some (.int w)] _ [.int (-1)] rfl ?_
    exact ar_R M_M_difference rfl rfl rfl rfl (⟨by rw [if_neg (by rw [hc]; decide)] <;> rfl, rfl⟩)
  · have hc := bi_eq_f hc
    have hcc := hc
    obtain ⟨a, b, ha, hb, hne, rfl, rfl⟩ := twB_ex hc
    refine ar_go M_M_difference 3 _ 11 _ [some (.ref 56), some (.int (nI a)), some (.int (nI b))] _ [.int (nI b), .int (nI a), .ref 56] rfl ?_
    refine ar_CV M_M_difference rfl rfl (Or.inl rfl) rfl rfl (Nat.le_of_ble_eq_true rfl) h56 M_M_lacks (Nat.le_of_ble_eq_true rfl) (c_M_lacks X d _ h560 hB0 ha hb) (fun r1 h1 hq => ?_)
    obtain ⟨rfl, rfl⟩ := hq
    refine ⟨rfl, ?_⟩
    show ar Pg _ _ _ 14 [some (.ref 56), some (.int (nI a)), some (.int (nI b))] [.int (nI (cntB (lkB (B a) (B b)) (B a).length))] _ _
    refine ar_go M_M_difference 3 _ 17 _ [some (.ref 56), some (.int (nI a)), some (.int (nI b))] _ [.int (nI a), .int (nI b), .ref 56, .int (nI (cntB (lkB (B a) (B b)) (B a).length))] rfl ?_
    refine ar_CV M_M_difference rfl rfl (Or.inl rfl) rfl rfl (Nat.le_of_ble_eq_true rfl) h56 M_M_lacks (Nat.le_of_ble_eq_true rfl) (c_M_lacks X d _ h560 hB0 hb ha) (fun r1 h1 hq => ?_)
    obtain ⟨rfl, rfl⟩ := hq
    refine ⟨rfl, ?_⟩
    show ar Pg _ _ _ 20 [some (.ref 56), some (.int (nI a)), some (.int (nI b))] [.int (nI (cntB (lkB (B b) (B a)) (B b).length)), .int (nI (cntB (lkB (B a) (B b)) (B a).length))] _ _
    refine ar_go M_M_difference 1 _ 21 _ [some (.ref 56), some (.int (nI a)), some (.int (nI b))] _ [.int (nI (cntB (lkB (B a) (B b)) (B a).length) + nI (cntB (lkB (B b) (B a)) (B b).length))] rfl ?_
    refine ar_top (w := .int (nI ((cntB (lkB (B a) (B b)) (B a).length) + (cntB (lkB (B b) (B a)) (B b).length)))) (congrArg Value.int (nI_add (cntB (lkB (B a) (B b)) (B a).length) (cntB (lkB (B b) (B a)) (B b).length))) ?_
    refine ar_go M_M_difference 1 _ 25 _ [some (.ref 56), some (.int (nI a)), some (.int (nI b))] _ [.int (nI ((cntB (lkB (B a) (B b)) (B a).length) + (cntB (lkB (B b) (B a)) (B b).length)))] rfl ?_
    exact ar_R M_M_difference rfl rfl rfl rfl (⟨by rw [if_pos hcc, nI_clamp (show a < 2 ^ 31 by omega), nI_clamp (show b < 2 ^ 31 by omega)], rfl⟩)
