/-! The reference: drop, version, grams, size, word -/
theorem c_M_drop (X : am_X) (d : Nat) (h : am_H) {B : Nat → Bk} {s : Int64} {ud ld pr uD lD nd tn : Int32} (h56 : isM0 h s ud ld pr uD lD nd tn) (hB : isMb h B) (v w : Int32) : ar Pg X (d + 1) n_M_drop 0 [some (.ref 56), some (.int v), some (.int w), none] [] h (fun rr h' => rr = some (.int (dpR B v w)) ∧ fr [57, 58, 59, 60, 61] h h' ∧ isM0 h' s ud ld pr uD lD nd tn ∧ isMb h' (dpB B v w)) := by
  have hB0 := hB
  obtain ⟨sz, nu, ve, gr, dr, ⟨h57, h58, h59, h60, h61⟩, hc0⟩ := hB
  have h560 := h56
  unfold isM0 at h56
  refine ar_go M_M_drop 1 _ 1 _ [some (.ref 56), some (.int v), some (.int w), none] _ [.int v] rfl ?_
  refine ar_CS M_M_drop rfl rfl (Nat.le_of_ble_eq_true rfl) rfl rfl (Nat.le_of_ble_eq_true rfl) M_M_isBank (Nat.le_of_ble_eq_true rfl) (c_M_isBank X d _ v) (fun r1 h1 hq => ?_)
  obtain ⟨rfl, rfl⟩ := hq
  refine ⟨rfl, ?_⟩
  show ar Pg _ _ _ 4 [some (.ref 56), some (.int v), some (.int w), none] [.int (bi (rng 4 v))] _ _
  refine ar_if M_M_drop rfl rfl (fun hc1 => ?_) (fun hc1 => ?_)
  · have hc1 := bi_eq_t hc1
    refine ar_go M_M_drop 1 _ 15 _ [some (.ref 56), some (.int v), some (.int w), none] _ [.int (-1)] rfl ?_
    exact ar_R M_M_drop rfl rfl rfl rfl (⟨by rw [show dpR B v w = _ from onB_o1 hc1 _ _] <;> rfl, fr.rf _ _, h560, by rw [show dpB B v w = B from onB_o1 hc1 _ _]; exact hB0⟩)
  · have hc1 := bi_eq_f hc1
    refine ar_go M_M_drop 1 _ 8 _ [some (.ref 56), some (.int v), some (.int w), none] _ [.int w] rfl ?_
    refine ar_CS M_M_drop rfl rfl (Nat.le_of_ble_eq_true rfl) rfl rfl (Nat.le_of_ble_eq_true rfl) M_M_isNumber (Nat.le_of_ble_eq_true rfl) (c_M_isNumber X d _ w) (fun r1 h1 hq => ?_)
    obtain ⟨rfl, rfl⟩ := hq
    refine ⟨rfl, ?_⟩
    show ar Pg _ _ _ 11 [some (.ref 56), some (.int v), some (.int w), none] [.int (bi (rng 10000 w))] _ _
    refine ar_if M_M_drop rfl rfl (fun hc2 => ?_) (fun hc2 => ?_)
    · have hc2 := bi_ne_t hc2
      obtain ⟨b, hb, rfl⟩ := rng_ex (by decide) hc1
      obtain ⟨n, hn, rfl⟩ := rng_ex (by decide) hc2
      obtain ⟨hsz, ⟨hlen, hS, hV⟩, hfa⟩ := hc0 b hb
      have hpl := (pos_pl (B b) n hS).1
      by_cases hh : hasAt (B b) (pos (B b) n) n = true
      · have hp := hasAt_iff.mp hh
        obtain ⟨p, hpe⟩ : ∃ p, p = pos (B b) n := ⟨_, rfl⟩
        rw [← hpe] at hh hp hpl
        have hvp := hV p hp.1
        obtain ⟨e1, e2, e3, e4⟩ := hfa p hp.1
        refine ar_go M_M_drop 3 _ 19 _ [some (.ref 56), some (.int (nI b)), some (.int (nI n)), none] _ [.int (nI n), .int (nI b), .ref 56] rfl ?_
        refine ar_CV M_M_drop rfl rfl (Or.inl rfl) rfl rfl (Nat.le_of_ble_eq_true rfl) h56 M_M_find (Nat.le_of_ble_eq_true rfl) (c_M_find X d _ h560 hB0 hb (by omega)) (fun r1 h1 hq => ?_)
        obtain ⟨rfl, rfl⟩ := hq
        refine ⟨rfl, ?_⟩
        rw [fnR, ← hpe, if_pos hh]
        show ar Pg _ _ _ 22 [some (.ref 56), some (.int (nI b)), some (.int (nI n)), none] [.int (nI (64 * b + p))] _ _
        refine ar_go M_M_drop 2 _ 24 _ [some (.ref 56), some (.int (nI b)), some (.int (nI n)), some (.int (nI (64 * b + p)))] _ [.int (nI (64 * b + p))] rfl ?_
        refine ar_if M_M_drop rfl rfl (fun z => absurd (of_decide_eq_true z) (nI_pos (by omega))) (fun _ => ?_)
        refine ar_go M_M_drop 1 _ 28 _ [some (.ref 56), some (.int (nI b)), some (.int (nI n)), some (.int (nI (64 * b + p)))] _ [.ref 56] rfl ?_
        refine ar_get M_M_drop rfl rfl h56 rfl ?_
        refine ar_go M_M_drop 1 _ 32 _ [some (.ref 56), some (.int (nI b)), some (.int (nI n)), some (.int (nI (64 * b + p)))] _ [.int (nI (64 * b + p)), .ref 61] rfl ?_
        refine ar_zald M_M_drop rfl h61 (vp_in_nI (by omega) (by decide)) ?_
        rw [nI_clamp (n := (64 * b + p)) (by omega)]
        refine ar_top (w := .int (bi (dd (B b) p))) (congrArg Value.int e4) ?_
        have hcte : ct (B b) n = wd (B b) p % 1024 / 2 := by unfold ct; rw [← hpe, if_pos hh]
        refine ar_if M_M_drop rfl rfl (fun hc4 => ?_) (fun hc4 => ?_)
        · have hc4 := bi_eq_t hc4
          have hdn : dpN (B b) n = false := by unfold dpN; rw [← hpe]; simp [hh, hc4]
          refine ar_go M_M_drop 1 _ 40 _ [some (.ref 56), some (.int (nI b)), some (.int (nI n)), some (.int (nI (64 * b + p)))] _ [.ref 56] rfl ?_
          refine ar_get M_M_drop rfl rfl h56 rfl ?_
          refine ar_go M_M_drop 1 _ 44 _ [some (.ref 56), some (.int (nI b)), some (.int (nI n)), some (.int (nI (64 * b + p)))] _ [.int (nI (64 * b + p)), .ref 59] rfl ?_
          refine ar_iald M_M_drop rfl (by unfold am_x0; omega) h59 (vp_in_nI (by omega) (by decide)) ?_
          rw [nI_clamp (n := (64 * b + p)) (by omega)]
          refine ar_top (w := .int (nI (wd (B b) p % 1024))) (congrArg Value.int e2) ?_
          refine ar_go M_M_drop 1 _ 46 _ [some (.ref 56), some (.int (nI b)), some (.int (nI n)), some (.int (nI (64 * b + p)))] _ [.int (nI 2), .int (nI (wd (B b) p % 1024))] rfl ?_
          refine ar_idiv M_M_drop rfl (by decide) ?_
          refine ar_top (w := .int (nI ((wd (B b) p % 1024) / 2))) (congrArg Value.int (pk_div (by omega) (by decide) (by decide))) ?_
          refine ar_go M_M_drop 1 _ 50 _ [some (.ref 56), some (.int (nI b)), some (.int (nI n)), some (.int (nI (64 * b + p)))] _ [.int (nI 500), .int (nI ((wd (B b) p % 1024) / 2))] rfl ?_
          refine ar_icmp M_M_drop rfl rfl (fun hc3 => ?_) (fun hc3 => ?_)
          · have hc3 := c2_ne_t (a := ((wd (B b) p % 1024) / 2)) (b := 500) (by omega) (by omega) hc3
            refine ar_go M_M_drop 1 _ 57 _ [some (.ref 56), some (.int (nI b)), some (.int (nI n)), some (.int (nI (64 * b + p)))] _ [.ref 56] rfl ?_
            refine ar_get M_M_drop rfl rfl h56 rfl ?_
            refine ar_go M_M_drop 3 _ 63 _ [some (.ref 56), some (.int (nI b)), some (.int (nI n)), some (.int (nI (64 * b + p)))] _ [.ref 56, .int (nI 2), .int (nI (64 * b + p)), .ref 59] rfl ?_
            refine ar_get M_M_drop rfl rfl h56 rfl ?_
            refine ar_go M_M_drop 1 _ 67 _ [some (.ref 56), some (.int (nI b)), some (.int (nI n)), some (.int (nI (64 * b + p)))] _ [.int (nI (64 * b + p)), .ref 59, .int (nI 2), .int (nI (64 * b + p)), .ref 59] rfl ?_
            refine ar_iald M_M_drop rfl (by unfold am_x0; omega) h59 (vp_in_nI (by omega) (by decide)) ?_
            rw [nI_clamp (n := (64 * b + p)) (by omega)]
            refine ar_top (w := .int (nI (wd (B b) p % 1024))) (congrArg Value.int e2) ?_
            refine ar_go M_M_drop 1 _ 69 _ [some (.ref 56), some (.int (nI b)), some (.int (nI n)), some (.int (nI (64 * b + p)))] _ [.int (nI 2), .int (nI (wd (B b) p % 1024)), .int (nI 2), .int (nI (64 * b + p)), .ref 59] rfl ?_
            refine ar_idiv M_M_drop rfl (by decide) ?_
            refine ar_top (w := .int (nI ((wd (B b) p % 1024) / 2))) (congrArg Value.int (pk_div (by omega) (by decide) (by decide))) ?_
            refine ar_go M_M_drop 2 _ 72 _ [some (.ref 56), some (.int (nI b)), some (.int (nI n)), some (.int (nI (64 * b + p)))] _ [.int (nI ((wd (B b) p % 1024) / 2) + nI 1), .int (nI 2), .int (nI (64 * b + p)), .ref 59] rfl ?_
            refine ar_top (w := .int (nI (((wd (B b) p % 1024) / 2) + 1))) (congrArg Value.int (nI_add ((wd (B b) p % 1024) / 2) 1)) ?_
            refine ar_go M_M_drop 1 _ 73 _ [some (.ref 56), some (.int (nI b)), some (.int (nI n)), some (.int (nI (64 * b + p)))] _ [.int (nI 2 * nI (((wd (B b) p % 1024) / 2) + 1)), .int (nI (64 * b + p)), .ref 59] rfl ?_
            refine ar_top (w := .int (nI (2 * (((wd (B b) p % 1024) / 2) + 1)))) (congrArg Value.int (pk_mul 2 (((wd (B b) p % 1024) / 2) + 1))) ?_
            refine ar_go M_M_drop 2 _ 75 _ [some (.ref 56), some (.int (nI b)), some (.int (nI n)), some (.int (nI (64 * b + p)))] _ [.int (nI 2), .int (nI b), .int (nI (2 * (((wd (B b) p % 1024) / 2) + 1))), .int (nI (64 * b + p)), .ref 59] rfl ?_
            refine ar_irem M_M_drop rfl (by decide) ?_
            refine ar_top (w := .int (nI (b % 2))) (congrArg Value.int (pk_rem (by omega) (by decide) (by decide))) ?_
            refine ar_go M_M_drop 1 _ 77 _ [some (.ref 56), some (.int (nI b)), some (.int (nI n)), some (.int (nI (64 * b + p)))] _ [.int (nI (2 * (((wd (B b) p % 1024) / 2) + 1)) + nI (b % 2)), .int (nI (64 * b + p)), .ref 59] rfl ?_
            refine ar_top (w := .int (nI ((2 * (((wd (B b) p % 1024) / 2) + 1)) + (b % 2)))) (congrArg Value.int (nI_add (2 * (((wd (B b) p % 1024) / 2) + 1)) (b % 2))) ?_
            refine ar_iast M_M_drop rfl h59 (vp_in_nI (by omega) (by decide)) (fun h2 hf he => ?_)
            rw [nI_clamp (n := (64 * b + p)) (by omega)] at he
            have h56 := hf.at h56 (by simp only [List.mem_cons, List.not_mem_nil, or_false]; omega)
            have h57 := hf.at h57 (by simp only [List.mem_cons, List.not_mem_nil, or_false]; omega)
            have h58 := hf.at h58 (by simp only [List.mem_cons, List.not_mem_nil, or_false]; omega)
            have h60 := hf.at h60 (by simp only [List.mem_cons, List.not_mem_nil, or_false]; omega)
            have h61 := hf.at h61 (by simp only [List.mem_cons, List.not_mem_nil, or_false]; omega)
            have h59 : h2[59]? = some (.inl (0, 256, .inl (upd ve (64 * b + p) (nI ((2 * (((wd (B b) p % 1024) / 2) + 1)) + (b % 2)))))) := he
            have k1 := hf
            refine ar_go M_M_drop 1 _ 79 _ [some (.ref 56), some (.int (nI b)), some (.int (nI n)), some (.int (nI (64 * b + p)))] _ [.ref 56] rfl ?_
            refine ar_get M_M_drop rfl rfl h56 rfl ?_
            refine ar_go M_M_drop 2 _ 84 _ [some (.ref 56), some (.int (nI b)), some (.int (nI n)), some (.int (nI (64 * b + p)))] _ [.int (nI 1), .int (nI (64 * b + p)), .ref 61] rfl ?_
            refine ar_zast M_M_drop rfl h61 (vp_in_nI (by omega) (by decide)) (fun h3 hf he => ?_)
            rw [nI_clamp (n := (64 * b + p)) (by omega)] at he
            have h56 := hf.at h56 (by simp only [List.mem_cons, List.not_mem_nil, or_false]; omega)
            have h57 := hf.at h57 (by simp only [List.mem_cons, List.not_mem_nil, or_false]; omega)
            have h58 := hf.at h58 (by simp only [List.mem_cons, List.not_mem_nil, or_false]; omega)
            have h59 := hf.at h59 (by simp only [List.mem_cons, List.not_mem_nil, or_false]; omega)
            have h60 := hf.at h60 (by simp only [List.mem_cons, List.not_mem_nil, or_false]; omega)
            have h61 : h3[61]? = some (.inl (2, 256, .inl (upd dr (64 * b + p) (vp_nar .boolean (nI 1))))) := he
            have k2 := hf
            refine ar_go M_M_drop 1 _ 86 _ [some (.ref 56), some (.int (nI b)), some (.int (nI n)), some (.int (nI (64 * b + p)))] _ [.ref 56] rfl ?_
            refine ar_get M_M_drop rfl rfl h56 rfl ?_
            refine ar_go M_M_drop 1 _ 90 _ [some (.ref 56), some (.int (nI b)), some (.int (nI n)), some (.int (nI (64 * b + p)))] _ [.int (nI (64 * b + p)), .ref 59] rfl ?_
            refine ar_iald M_M_drop rfl (by unfold am_x0; omega) h59 (vp_in_nI (by omega) (by decide)) ?_
            rw [nI_clamp (n := (64 * b + p)) (by omega)]
            refine ar_top (w := .int (nI (vr b (wd (B b) p % 1024 / 2)))) (congrArg Value.int pk_us) ?_
            have hw1 : wd (B b) p / 1024 = n := hp.2
            have hst : stR (B b) (1024 * n + vr b (ct (B b) n), gd (B b) p, true) = (B b).set p (1024 * (wd (B b) p / 1024) + vr b (wd (B b) p % 1024 / 2), gd (B b) p, true) := by unfold stR; simp only []; rw [show (1024 * n + vr b (ct (B b) n)) / 1024 = n by rw [hcte]; unfold vr; omega, ← hpe, if_pos hh, hcte, hw1]
            have hgg : gB (stR (B b) (1024 * n + vr b (ct (B b) n), gd (B b) p, true)) := ⟨stR_len hlen hS _, stR_S hS _, stR_V hS hV ⟨by simp only [hcte]; unfold vr; omega, by simp only [hcte]; unfold vr; omega, by simp only [hcte]; unfold vr; omega⟩⟩
            refine ar_R M_M_drop rfl rfl rfl rfl ⟨by rw [show dpR B (nI b) (nI n) = _ from onB_in hb hn _ _, if_neg (by rw [hdn]; decide), if_neg (by rw [hcte]; omega), hcte], k1.tr k2 (by simp) (by simp), h56, ?_⟩
            rw [show dpB B (nI b) (nI n) = _ from onB_in hb hn _ _, if_neg (by rw [hdn]; decide), if_neg (by rw [hcte]; omega), ← hpe]
            rw [hst] at hgg ⊢
            exact ⟨_, _, _, _, _, ⟨h57, h58, h59, h60, h61⟩, isMc_set hc0 hb hp.1 (fun j hj => ⟨pk_un hj, rfl, pk_un hj⟩) ⟨pk_us, e3, pk_us⟩ (by unfold vr; omega) hgg⟩
          · have hc3 := c2_ne_f (a := ((wd (B b) p % 1024) / 2)) (b := 500) (by omega) (by omega) hc3
            refine ar_go M_M_drop 1 _ 55 _ [some (.ref 56), some (.int (nI b)), some (.int (nI n)), some (.int (nI (64 * b + p)))] _ [.int (-3)] rfl ?_
            exact ar_R M_M_drop rfl rfl rfl rfl (⟨by rw [show dpR B (nI b) (nI n) = _ from onB_in hb hn _ _, if_neg (by rw [hdn]; decide), if_pos (by rw [hcte]; exact hc3)] <;> rfl, fr.rf _ _, h560, by rw [show dpB B (nI b) (nI n) = _ from onB_in hb hn _ _, if_neg (by rw [hdn]; decide), if_pos (by rw [hcte]; exact hc3)]; exact hB0⟩)
        · have hc4 := bi_eq_f hc4
          have hdn : dpN (B b) n = true := by unfold dpN; rw [← hpe]; simp [hc4]
          refine ar_go M_M_drop 1 _ 38 _ [some (.ref 56), some (.int (nI b)), some (.int (nI n)), some (.int (nI (64 * b + p)))] _ [.int (-2)] rfl ?_
          exact ar_R M_M_drop rfl rfl rfl rfl (⟨by rw [show dpR B (nI b) (nI n) = _ from onB_in hb hn _ _, if_pos hdn] <;> rfl, fr.rf _ _, h560, by rw [show dpB B (nI b) (nI n) = _ from onB_in hb hn _ _, if_pos hdn]; exact hB0⟩)
      · have hh : hasAt (B b) (pos (B b) n) n = false := by simpa using hh
        refine ar_go M_M_drop 3 _ 19 _ [some (.ref 56), some (.int (nI b)), some (.int (nI n)), none] _ [.int (nI n), .int (nI b), .ref 56] rfl ?_
        refine ar_CV M_M_drop rfl rfl (Or.inl rfl) rfl rfl (Nat.le_of_ble_eq_true rfl) h56 M_M_find (Nat.le_of_ble_eq_true rfl) (c_M_find X d _ h560 hB0 hb (by omega)) (fun r1 h1 hq => ?_)
        obtain ⟨rfl, rfl⟩ := hq
        refine ⟨rfl, ?_⟩
        rw [fnR, if_neg (by rw [hh]; decide)]
        show ar Pg _ _ _ 22 [some (.ref 56), some (.int (nI b)), some (.int (nI n)), none] [.int (-1)] _ _
        refine ar_go M_M_drop 2 _ 24 _ [some (.ref 56), some (.int (nI b)), some (.int (nI n)), some (.int (-1))] _ [.int (-1)] rfl ?_
        refine ar_if M_M_drop rfl rfl (fun _ => ?_) (fun z => absurd z (by decide))
        have hdn : dpN (B b) n = true := by unfold dpN; rw [hh]; rfl
        refine ar_go M_M_drop 1 _ 38 _ [some (.ref 56), some (.int (nI b)), some (.int (nI n)), some (.int (-1))] _ [.int (-2)] rfl ?_
        exact ar_R M_M_drop rfl rfl rfl rfl (⟨by rw [show dpR B (nI b) (nI n) = _ from onB_in hb hn _ _, if_pos hdn] <;> rfl, fr.rf _ _, h560, by rw [show dpB B (nI b) (nI n) = _ from onB_in hb hn _ _, if_pos hdn]; exact hB0⟩)
    · have hc2 := bi_ne_f hc2
      refine ar_go M_M_drop 1 _ 15 _ [some (.ref 56), some (.int v), some (.int w), none] _ [.int (-1)] rfl ?_
      exact ar_R M_M_drop rfl rfl rfl rfl (⟨by rw [show dpR B v w = _ from onB_o2 hc2 _ _] <;> rfl, fr.rf _ _, h560, by rw [show dpB B v w = B from onB_o2 hc2 _ _]; exact hB0⟩)
theorem c_M_version (X : am_X) (d : Nat) (h : am_H) {B : Nat → Bk} {s : Int64} {ud ld pr uD lD nd tn : Int32} (h56 : isM0 h s ud ld pr uD lD nd tn) (hB : isMb h B) (v w : Int32) : ar Pg X (d + 1) n_M_version 0 [some (.ref 56), some (.int v), some (.int w), none] [] h (fun rr h' => rr = some (.int (vsR B v w)) ∧ h' = h) := by
  have hB0 := hB
  obtain ⟨sz, nu, ve, gr, dr, ⟨h57, h58, h59, h60, h61⟩, hc0⟩ := hB
  have h560 := h56
  unfold isM0 at h56
  refine ar_go M_M_version 1 _ 1 _ [some (.ref 56), some (.int v), some (.int w), none] _ [.int v] rfl ?_
  refine ar_CS M_M_version rfl rfl (Nat.le_of_ble_eq_true rfl) rfl rfl (Nat.le_of_ble_eq_true rfl) M_M_isBank (Nat.le_of_ble_eq_true rfl) (c_M_isBank X d _ v) (fun r1 h1 hq => ?_)
  obtain ⟨rfl, rfl⟩ := hq
  refine ⟨rfl, ?_⟩
  show ar Pg _ _ _ 4 [some (.ref 56), some (.int v), some (.int w), none] [.int (bi (rng 4 v))] _ _
  refine ar_if M_M_version rfl rfl (fun hc1 => ?_) (fun hc1 => ?_)
  · have hc1 := bi_eq_t hc1
    refine ar_go M_M_version 1 _ 15 _ [some (.ref 56), some (.int v), some (.int w), none] _ [.int (-1)] rfl ?_
    exact ar_R M_M_version rfl rfl rfl rfl (⟨by rw [show vsR B v w = _ from onB_o1 hc1 _ _] <;> rfl, rfl⟩)
  · have hc1 := bi_eq_f hc1
    refine ar_go M_M_version 1 _ 8 _ [some (.ref 56), some (.int v), some (.int w), none] _ [.int w] rfl ?_
    refine ar_CS M_M_version rfl rfl (Nat.le_of_ble_eq_true rfl) rfl rfl (Nat.le_of_ble_eq_true rfl) M_M_isNumber (Nat.le_of_ble_eq_true rfl) (c_M_isNumber X d _ w) (fun r1 h1 hq => ?_)
    obtain ⟨rfl, rfl⟩ := hq
    refine ⟨rfl, ?_⟩
    show ar Pg _ _ _ 11 [some (.ref 56), some (.int v), some (.int w), none] [.int (bi (rng 10000 w))] _ _
    refine ar_if M_M_version rfl rfl (fun hc2 => ?_) (fun hc2 => ?_)
    · have hc2 := bi_ne_t hc2
      obtain ⟨b, hb, rfl⟩ := rng_ex (by decide) hc1
      obtain ⟨n, hn, rfl⟩ := rng_ex (by decide) hc2
      obtain ⟨hsz, ⟨hlen, hS, hV⟩, hfa⟩ := hc0 b hb
      have hpl := (pos_pl (B b) n hS).1
      by_cases hh : hasAt (B b) (pos (B b) n) n = true
      · have hp := hasAt_iff.mp hh
        obtain ⟨p, hpe⟩ : ∃ p, p = pos (B b) n := ⟨_, rfl⟩
        rw [← hpe] at hh hp hpl
        have hvp := hV p hp.1
        obtain ⟨e1, e2, e3, e4⟩ := hfa p hp.1
        refine ar_go M_M_version 3 _ 19 _ [some (.ref 56), some (.int (nI b)), some (.int (nI n)), none] _ [.int (nI n), .int (nI b), .ref 56] rfl ?_
        refine ar_CV M_M_version rfl rfl (Or.inl rfl) rfl rfl (Nat.le_of_ble_eq_true rfl) h56 M_M_find (Nat.le_of_ble_eq_true rfl) (c_M_find X d _ h560 hB0 hb (by omega)) (fun r1 h1 hq => ?_)
        obtain ⟨rfl, rfl⟩ := hq
        refine ⟨rfl, ?_⟩
        rw [fnR, ← hpe, if_pos hh]
        show ar Pg _ _ _ 22 [some (.ref 56), some (.int (nI b)), some (.int (nI n)), none] [.int (nI (64 * b + p))] _ _
        refine ar_go M_M_version 2 _ 24 _ [some (.ref 56), some (.int (nI b)), some (.int (nI n)), some (.int (nI (64 * b + p)))] _ [.int (nI (64 * b + p))] rfl ?_
        refine ar_if M_M_version rfl rfl (fun _ => ?_) (fun z => absurd (of_decide_eq_false z) (fun z => z (nI_nn (by omega))))
        refine ar_go M_M_version 1 _ 32 _ [some (.ref 56), some (.int (nI b)), some (.int (nI n)), some (.int (nI (64 * b + p)))] _ [.ref 56] rfl ?_
        refine ar_get M_M_version rfl rfl h56 rfl ?_
        refine ar_go M_M_version 1 _ 36 _ [some (.ref 56), some (.int (nI b)), some (.int (nI n)), some (.int (nI (64 * b + p)))] _ [.int (nI (64 * b + p)), .ref 61] rfl ?_
        refine ar_zald M_M_version rfl h61 (vp_in_nI (by omega) (by decide)) ?_
        rw [nI_clamp (n := (64 * b + p)) (by omega)]
        refine ar_top (w := .int (bi (dd (B b) p))) (congrArg Value.int e4) ?_
        refine ar_if M_M_version rfl rfl (fun hc4 => ?_) (fun hc4 => ?_)
        · have hc4 := bi_eq_t hc4
          refine ar_go M_M_version 1 _ 51 _ [some (.ref 56), some (.int (nI b)), some (.int (nI n)), some (.int (nI (64 * b + p)))] _ [.ref 56] rfl ?_
          refine ar_get M_M_version rfl rfl h56 rfl ?_
          refine ar_go M_M_version 1 _ 55 _ [some (.ref 56), some (.int (nI b)), some (.int (nI n)), some (.int (nI (64 * b + p)))] _ [.int (nI (64 * b + p)), .ref 59] rfl ?_
          refine ar_iald M_M_version rfl (by unfold am_x0; omega) h59 (vp_in_nI (by omega) (by decide)) ?_
          rw [nI_clamp (n := (64 * b + p)) (by omega)]
          refine ar_top (w := .int (nI (wd (B b) p % 1024))) (congrArg Value.int e2) ?_
          exact ar_R M_M_version rfl rfl rfl rfl (⟨by rw [show vsR B (nI b) (nI n) = _ from onB_in hb hn _ _, ← hpe, if_pos hh, if_neg (by rw [hc4]; decide)], rfl⟩)
        · have hc4 := bi_eq_f hc4
          refine ar_go M_M_version 1 _ 41 _ [some (.ref 56), some (.int (nI b)), some (.int (nI n)), some (.int (nI (64 * b + p)))] _ [.ref 56] rfl ?_
          refine ar_get M_M_version rfl rfl h56 rfl ?_
          refine ar_go M_M_version 1 _ 45 _ [some (.ref 56), some (.int (nI b)), some (.int (nI n)), some (.int (nI (64 * b + p)))] _ [.int (nI (64 * b + p)), .ref 59] rfl ?_
          refine ar_iald M_M_version rfl (by unfold am_x0; omega) h59 (vp_in_nI (by omega) (by decide)) ?_
          rw [nI_clamp (n := (64 * b + p)) (by omega)]
          refine ar_top (w := .int (nI (wd (B b) p % 1024))) (congrArg Value.int e2) ?_
          refine ar_go M_M_version 2 _ 56 _ [some (.ref 56), some (.int (nI b)), some (.int (nI n)), some (.int (nI (64 * b + p)))] _ [.int (-(nI (wd (B b) p % 1024)))] rfl ?_
          exact ar_R M_M_version rfl rfl rfl rfl (⟨by rw [show vsR B (nI b) (nI n) = _ from onB_in hb hn _ _, ← hpe, if_pos hh, if_pos hc4], rfl⟩)
      · have hh : hasAt (B b) (pos (B b) n) n = false := by simpa using hh
        refine ar_go M_M_version 3 _ 19 _ [some (.ref 56), some (.int (nI b)), some (.int (nI n)), none] _ [.int (nI n), .int (nI b), .ref 56] rfl ?_
        refine ar_CV M_M_version rfl rfl (Or.inl rfl) rfl rfl (Nat.le_of_ble_eq_true rfl) h56 M_M_find (Nat.le_of_ble_eq_true rfl) (c_M_find X d _ h560 hB0 hb (by omega)) (fun r1 h1 hq => ?_)
        obtain ⟨rfl, rfl⟩ := hq
        refine ⟨rfl, ?_⟩
        rw [fnR, if_neg (by rw [hh]; decide)]
        show ar Pg _ _ _ 22 [some (.ref 56), some (.int (nI b)), some (.int (nI n)), none] [.int (-1)] _ _
        refine ar_go M_M_version 2 _ 24 _ [some (.ref 56), some (.int (nI b)), some (.int (nI n)), some (.int (-1))] _ [.int (-1)] rfl ?_
        refine ar_if M_M_version rfl rfl (fun z => absurd z (by decide)) (fun _ => ?_)
        refine ar_go M_M_version 2 _ 56 _ [some (.ref 56), some (.int (nI b)), some (.int (nI n)), some (.int (-1))] _ [.int (nI 0)] rfl ?_
        exact ar_R M_M_version rfl rfl rfl rfl (⟨by rw [show vsR B (nI b) (nI n) = _ from onB_in hb hn _ _, if_neg (by rw [hh]; decide)] <;> rfl, rfl⟩)
    · have hc2 := bi_ne_f hc2
      refine ar_go M_M_version 1 _ 15 _ [some (.ref 56), some (.int v), some (.int w), none] _ [.int (-1)] rfl ?_
      exact ar_R M_M_version rfl rfl rfl rfl (⟨by rw [show vsR B v w = _ from onB_o2 hc2 _ _] <;> rfl, rfl⟩)
theorem c_M_grams (X : am_X) (d : Nat) (h : am_H) {B : Nat → Bk} {s : Int64} {ud ld pr uD lD nd tn : Int32} (h56 : isM0 h s ud ld pr uD lD nd tn) (hB : isMb h B) (v w : Int32) : ar Pg X (d + 1) n_M_grams 0 [some (.ref 56), some (.int v), some (.int w), none] [] h (fun rr h' => rr = some (.int (grR B v w)) ∧ h' = h) := by
  have hB0 := hB
  obtain ⟨sz, nu, ve, gr, dr, ⟨h57, h58, h59, h60, h61⟩, hc0⟩ := hB
  have h560 := h56
  unfold isM0 at h56
  refine ar_go M_M_grams 1 _ 1 _ [some (.ref 56), some (.int v), some (.int w), none] _ [.int v] rfl ?_
  refine ar_CS M_M_grams rfl rfl (Nat.le_of_ble_eq_true rfl) rfl rfl (Nat.le_of_ble_eq_true rfl) M_M_isBank (Nat.le_of_ble_eq_true rfl) (c_M_isBank X d _ v) (fun r1 h1 hq => ?_)
  obtain ⟨rfl, rfl⟩ := hq
  refine ⟨rfl, ?_⟩
  show ar Pg _ _ _ 4 [some (.ref 56), some (.int v), some (.int w), none] [.int (bi (rng 4 v))] _ _
  refine ar_if M_M_grams rfl rfl (fun hc1 => ?_) (fun hc1 => ?_)
  · have hc1 := bi_eq_t hc1
    refine ar_go M_M_grams 3 _ 26 _ [some (.ref 56), some (.int v), some (.int w), some (.int (-1))] _ [.int (-1)] rfl ?_
    refine ar_if M_M_grams rfl rfl (fun z => absurd z (by decide)) (fun _ => ?_)
    refine ar_go M_M_grams 2 _ 39 _ [some (.ref 56), some (.int v), some (.int w), some (.int (-1))] _ [.int (nI 0)] rfl ?_
    exact ar_R M_M_grams rfl rfl rfl rfl (⟨by rw [show grR B v w = _ from onB_o1 hc1 _ _] <;> rfl, rfl⟩)
  · have hc1 := bi_eq_f hc1
    refine ar_go M_M_grams 1 _ 8 _ [some (.ref 56), some (.int v), some (.int w), none] _ [.int w] rfl ?_
    refine ar_CS M_M_grams rfl rfl (Nat.le_of_ble_eq_true rfl) rfl rfl (Nat.le_of_ble_eq_true rfl) M_M_isNumber (Nat.le_of_ble_eq_true rfl) (c_M_isNumber X d _ w) (fun r1 h1 hq => ?_)
    obtain ⟨rfl, rfl⟩ := hq
    refine ⟨rfl, ?_⟩
    show ar Pg _ _ _ 11 [some (.ref 56), some (.int v), some (.int w), none] [.int (bi (rng 10000 w))] _ _
    refine ar_if M_M_grams rfl rfl (fun hc2 => ?_) (fun hc2 => ?_)
    · have hc2 := bi_eq_t hc2
      refine ar_go M_M_grams 3 _ 26 _ [some (.ref 56), some (.int v), some (.int w), some (.int (-1))] _ [.int (-1)] rfl ?_
      refine ar_if M_M_grams rfl rfl (fun z => absurd z (by decide)) (fun _ => ?_)
      refine ar_go M_M_grams 2 _ 39 _ [some (.ref 56), some (.int v), some (.int w), some (.int (-1))] _ [.int (nI 0)] rfl ?_
      exact ar_R M_M_grams rfl rfl rfl rfl (⟨by rw [show grR B v w = _ from onB_o2 hc2 _ _] <;> rfl, rfl⟩)
    · have hc2 := bi_eq_f hc2
      obtain ⟨b, hb, rfl⟩ := rng_ex (by decide) hc1
      obtain ⟨n, hn, rfl⟩ := rng_ex (by decide) hc2
      obtain ⟨hsz, ⟨hlen, hS, hV⟩, hfa⟩ := hc0 b hb
      have hpl := (pos_pl (B b) n hS).1
      by_cases hh : hasAt (B b) (pos (B b) n) n = true
      · have hp := hasAt_iff.mp hh
        obtain ⟨p, hpe⟩ : ∃ p, p = pos (B b) n := ⟨_, rfl⟩
        rw [← hpe] at hh hp hpl
        have hvp := hV p hp.1
        obtain ⟨e1, e2, e3, e4⟩ := hfa p hp.1
        refine ar_go M_M_grams 3 _ 17 _ [some (.ref 56), some (.int (nI b)), some (.int (nI n)), none] _ [.int (nI n), .int (nI b), .ref 56] rfl ?_
        refine ar_CV M_M_grams rfl rfl (Or.inl rfl) rfl rfl (Nat.le_of_ble_eq_true rfl) h56 M_M_find (Nat.le_of_ble_eq_true rfl) (c_M_find X d _ h560 hB0 hb (by omega)) (fun r1 h1 hq => ?_)
        obtain ⟨rfl, rfl⟩ := hq
        refine ⟨rfl, ?_⟩
        rw [fnR, ← hpe, if_pos hh]
        show ar Pg _ _ _ 20 [some (.ref 56), some (.int (nI b)), some (.int (nI n)), none] [.int (nI (64 * b + p))] _ _
        refine ar_go M_M_grams 3 _ 26 _ [some (.ref 56), some (.int (nI b)), some (.int (nI n)), some (.int (nI (64 * b + p)))] _ [.int (nI (64 * b + p))] rfl ?_
        refine ar_if M_M_grams rfl rfl (fun _ => ?_) (fun z => absurd (of_decide_eq_false z) (fun z => z (nI_nn (by omega))))
        refine ar_go M_M_grams 1 _ 34 _ [some (.ref 56), some (.int (nI b)), some (.int (nI n)), some (.int (nI (64 * b + p)))] _ [.ref 56] rfl ?_
        refine ar_get M_M_grams rfl rfl h56 rfl ?_
        refine ar_go M_M_grams 1 _ 38 _ [some (.ref 56), some (.int (nI b)), some (.int (nI n)), some (.int (nI (64 * b + p)))] _ [.int (nI (64 * b + p)), .ref 60] rfl ?_
        refine ar_iald M_M_grams rfl (by unfold am_x0; omega) h60 (vp_in_nI (by omega) (by decide)) ?_
        rw [nI_clamp (n := (64 * b + p)) (by omega)]
        refine ar_top (w := .int (gd (B b) p)) (congrArg Value.int e3) ?_
        exact ar_R M_M_grams rfl rfl rfl rfl (⟨by rw [show grR B (nI b) (nI n) = _ from onB_in hb hn _ _, ← hpe, if_pos hh], rfl⟩)
      · have hh : hasAt (B b) (pos (B b) n) n = false := by simpa using hh
        refine ar_go M_M_grams 3 _ 17 _ [some (.ref 56), some (.int (nI b)), some (.int (nI n)), none] _ [.int (nI n), .int (nI b), .ref 56] rfl ?_
        refine ar_CV M_M_grams rfl rfl (Or.inl rfl) rfl rfl (Nat.le_of_ble_eq_true rfl) h56 M_M_find (Nat.le_of_ble_eq_true rfl) (c_M_find X d _ h560 hB0 hb (by omega)) (fun r1 h1 hq => ?_)
        obtain ⟨rfl, rfl⟩ := hq
        refine ⟨rfl, ?_⟩
        rw [fnR, if_neg (by rw [hh]; decide)]
        show ar Pg _ _ _ 20 [some (.ref 56), some (.int (nI b)), some (.int (nI n)), none] [.int (-1)] _ _
        refine ar_go M_M_grams 3 _ 26 _ [some (.ref 56), some (.int (nI b)), some (.int (nI n)), some (.int (-1))] _ [.int (-1)] rfl ?_
        refine ar_if M_M_grams rfl rfl (fun z => absurd z (by decide)) (fun _ => ?_)
        refine ar_go M_M_grams 2 _ 39 _ [some (.ref 56), some (.int (nI b)), some (.int (nI n)), some (.int (-1))] _ [.int (nI 0)] rfl ?_
        exact ar_R M_M_grams rfl rfl rfl rfl (⟨by rw [show grR B (nI b) (nI n) = _ from onB_in hb hn _ _, if_neg (by rw [hh]; decide)] <;> rfl, rfl⟩)
theorem c_M_size (X : am_X) (d : Nat) (h : am_H) {B : Nat → Bk} {s : Int64} {ud ld pr uD lD nd tn : Int32} (h56 : isM0 h s ud ld pr uD lD nd tn) (hB : isMb h B) (v : Int32) : ar Pg X (d + 1) n_M_size 0 [some (.ref 56), some (.int v)] [] h (fun rr h' => rr = some (.int (szR B v)) ∧ h' = h) := by
  have hB0 := hB
  obtain ⟨sz, nu, ve, gr, dr, ⟨h57, h58, h59, h60, h61⟩, hc0⟩ := hB
  have h560 := h56
  unfold isM0 at h56
  refine ar_go M_M_size 1 _ 1 _ [some (.ref 56), some (.int v)] _ [.int v] rfl ?_
  refine ar_CS M_M_size rfl rfl (Nat.le_of_ble_eq_true rfl) rfl rfl (Nat.le_of_ble_eq_true rfl) M_M_isBank (Nat.le_of_ble_eq_true rfl) (c_M_isBank X d _ v) (fun r1 h1 hq => ?_)
  obtain ⟨rfl, rfl⟩ := hq
  refine ⟨rfl, ?_⟩
  show ar Pg _ _ _ 4 [some (.ref 56), some (.int v)] [.int (bi (rng 4 v))] _ _
  refine ar_if M_M_size rfl rfl (fun hc1 => ?_) (fun hc1 => ?_)
  · have hc1 := bi_eq_t hc1
    refine ar_go M_M_size 1 _ 17 _ [some (.ref 56), some (.int v)] _ [.int (-1)] rfl ?_
    exact ar_R M_M_size rfl rfl rfl rfl (⟨by rw [szR, if_neg (by rw [hc1]; decide)] <;> rfl, rfl⟩)
  · have hc1 := bi_eq_f hc1
    have hcc := hc1
    obtain ⟨b, hb, rfl⟩ := rng_ex (by decide) hc1
    refine ar_go M_M_size 1 _ 8 _ [some (.ref 56), some (.int (nI b))] _ [.ref 56] rfl ?_
    refine ar_get M_M_size rfl rfl h56 rfl ?_
    refine ar_go M_M_size 1 _ 12 _ [some (.ref 56), some (.int (nI b))] _ [.int (nI b), .ref 57] rfl ?_
    refine ar_iald M_M_size rfl (by unfold am_x0; omega) h57 (vp_in_nI (by omega) (by decide)) ?_
    rw [nI_clamp (n := b) (by omega)]
    refine ar_top (w := .int (nI ((B b).length))) (congrArg Value.int ((hc0 b hb).1)) ?_
    refine ar_go M_M_size 1 _ 17 _ [some (.ref 56), some (.int (nI b))] _ [.int (nI ((B b).length))] rfl ?_
    exact ar_R M_M_size rfl rfl rfl rfl (⟨by rw [szR, if_pos hcc, nI_clamp (by omega)], rfl⟩)
theorem c_M_wordAt (X : am_X) (d : Nat) (h : am_H) {B : Nat → Bk} {s : Int64} {ud ld pr uD lD nd tn : Int32} (h56 : isM0 h s ud ld pr uD lD nd tn) (hB : isMb h B) {b i : Nat} (hb : b < 4) (hi : i < (B b).length) : ar Pg X d n_M_wordAt 0 [some (.ref 56), some (.int (nI (64 * b + i)))] [] h (fun rr h' => rr = some (.int (nI (wd (B b) i))) ∧ h' = h) := by
  have hB0 := hB
  obtain ⟨sz, nu, ve, gr, dr, ⟨h57, h58, h59, h60, h61⟩, hc0⟩ := hB
  have h560 := h56
  unfold isM0 at h56
  obtain ⟨hsz, ⟨hlen, hS, hV⟩, hfa⟩ := hc0 b hb
  obtain ⟨e1, e2, e3, e4⟩ := hfa i hi
  have hvi := hV i hi
  refine ar_go M_M_wordAt 2 _ 4 _ [some (.ref 56), some (.int (nI (64 * b + i)))] _ [.ref 56, .int (nI 1024)] rfl ?_
  refine ar_get M_M_wordAt rfl rfl h56 rfl ?_
  refine ar_go M_M_wordAt 1 _ 8 _ [some (.ref 56), some (.int (nI (64 * b + i)))] _ [.int (nI (64 * b + i)), .ref 58, .int (nI 1024)] rfl ?_
  refine ar_iald M_M_wordAt rfl (by unfold am_x0; omega) h58 (vp_in_nI (by omega) (by decide)) ?_
  rw [nI_clamp (n := (64 * b + i)) (by omega)]
  refine ar_top (w := .int (nI (wd (B b) i / 1024))) (congrArg Value.int e1) ?_
  refine ar_go M_M_wordAt 1 _ 10 _ [some (.ref 56), some (.int (nI (64 * b + i)))] _ [.int (nI 1024 * nI (wd (B b) i / 1024))] rfl ?_
  refine ar_top (w := .int (nI (1024 * (wd (B b) i / 1024)))) (congrArg Value.int (pk_mul 1024 (wd (B b) i / 1024))) ?_
  refine ar_go M_M_wordAt 1 _ 11 _ [some (.ref 56), some (.int (nI (64 * b + i)))] _ [.ref 56, .int (nI (1024 * (wd (B b) i / 1024)))] rfl ?_
  refine ar_get M_M_wordAt rfl rfl h56 rfl ?_
  refine ar_go M_M_wordAt 1 _ 15 _ [some (.ref 56), some (.int (nI (64 * b + i)))] _ [.int (nI (64 * b + i)), .ref 59, .int (nI (1024 * (wd (B b) i / 1024)))] rfl ?_
  refine ar_iald M_M_wordAt rfl (by unfold am_x0; omega) h59 (vp_in_nI (by omega) (by decide)) ?_
  rw [nI_clamp (n := (64 * b + i)) (by omega)]
  refine ar_top (w := .int (nI (wd (B b) i % 1024))) (congrArg Value.int e2) ?_
  refine ar_go M_M_wordAt 1 _ 17 _ [some (.ref 56), some (.int (nI (64 * b + i)))] _ [.int (nI (1024 * (wd (B b) i / 1024)) + nI (wd (B b) i % 1024))] rfl ?_
  refine ar_top (w := .int (nI (wd (B b) i))) (congrArg Value.int ((nI_add (1024 * (wd (B b) i / 1024)) (wd (B b) i % 1024)).trans (congrArg nI (by omega)))) ?_
  exact ar_R M_M_wordAt rfl rfl rfl rfl (⟨rfl, rfl⟩)
theorem c_M_word (X : am_X) (d : Nat) (h : am_H) {B : Nat → Bk} {s : Int64} {ud ld pr uD lD nd tn : Int32} (h56 : isM0 h s ud ld pr uD lD nd tn) (hB : isMb h B) (v w : Int32) : ar Pg X (d + 1) n_M_word 0 [some (.ref 56), some (.int v), some (.int w)] [] h (fun rr h' => rr = some (.int (wdR B v w)) ∧ h' = h) := by
  have hB0 := hB
  obtain ⟨sz, nu, ve, gr, dr, ⟨h57, h58, h59, h60, h61⟩, hc0⟩ := hB
  have h560 := h56
  unfold isM0 at h56
  refine ar_go M_M_word 1 _ 1 _ [some (.ref 56), some (.int v), some (.int w)] _ [.int v] rfl ?_
  refine ar_CS M_M_word rfl rfl (Nat.le_of_ble_eq_true rfl) rfl rfl (Nat.le_of_ble_eq_true rfl) M_M_isBank (Nat.le_of_ble_eq_true rfl) (c_M_isBank X d _ v) (fun r1 h1 hq => ?_)
  obtain ⟨rfl, rfl⟩ := hq
  refine ⟨rfl, ?_⟩
  show ar Pg _ _ _ 4 [some (.ref 56), some (.int v), some (.int w)] [.int (bi (rng 4 v))] _ _
  refine ar_if M_M_word rfl rfl (fun hc1 => ?_) (fun hc1 => ?_)
  · have hc1 := bi_eq_t hc1
    refine ar_go M_M_word 1 _ 35 _ [some (.ref 56), some (.int v), some (.int w)] _ [.int (-1)] rfl ?_
    exact ar_R M_M_word rfl rfl rfl rfl (⟨by rw [wdR, if_neg (by simp [hc1])] <;> rfl, rfl⟩)
  · have hc1 := bi_eq_f hc1
    have hcc := hc1
    obtain ⟨b, hb, rfl⟩ := rng_ex (by decide) hc1
    obtain ⟨hsz, ⟨hlen, hS, hV⟩, hfa⟩ := hc0 b hb
    refine ar_go M_M_word 1 _ 8 _ [some (.ref 56), some (.int (nI b)), some (.int w)] _ [.int w] rfl ?_
    refine ar_if M_M_word rfl rfl (fun hc2 => ?_) (fun hc2 => ?_)
    · refine ar_go M_M_word 1 _ 35 _ [some (.ref 56), some (.int (nI b)), some (.int w)] _ [.int (-1)] rfl ?_
      exact ar_R M_M_word rfl rfl rfl rfl (⟨by rw [wdR, if_neg (by simp [nI_clamp (show b < 2 ^ 31 by omega), rng, hc2])] <;> rfl, rfl⟩)
    · refine ar_go M_M_word 2 _ 13 _ [some (.ref 56), some (.int (nI b)), some (.int w)] _ [.ref 56, .int w] rfl ?_
      refine ar_get M_M_word rfl rfl h56 rfl ?_
      refine ar_go M_M_word 1 _ 17 _ [some (.ref 56), some (.int (nI b)), some (.int w)] _ [.int (nI b), .ref 57, .int w] rfl ?_
      refine ar_iald M_M_word rfl (by unfold am_x0; omega) h57 (vp_in_nI (by omega) (by decide)) ?_
      rw [nI_clamp (n := b) (by omega)]
      refine ar_top (w := .int (nI ((B b).length))) (congrArg Value.int hsz) ?_
      refine ar_icmp M_M_word rfl rfl (fun hc3 => ?_) (fun hc3 => ?_)
      · refine ar_go M_M_word 1 _ 35 _ [some (.ref 56), some (.int (nI b)), some (.int w)] _ [.int (-1)] rfl ?_
        exact ar_R M_M_word rfl rfl rfl rfl (⟨by rw [wdR, if_neg (by simp [nI_clamp (show b < 2 ^ 31 by omega), rng, hc3])] <;> rfl, rfl⟩)
      · obtain ⟨k, hk, rfl⟩ := rng_ex (n := (B b).length) (v := w) (by omega) (by simp [rng, hc2, hc3])
        refine ar_go M_M_word 4 _ 26 _ [some (.ref 56), some (.int (nI b)), some (.int (nI k))] _ [.int (nI 64 * nI b), .ref 56] rfl ?_
        refine ar_top (w := .int (nI (64 * b))) (congrArg Value.int (pk_mul 64 b)) ?_
        refine ar_go M_M_word 2 _ 28 _ [some (.ref 56), some (.int (nI b)), some (.int (nI k))] _ [.int (nI (64 * b) + nI k), .ref 56] rfl ?_
        refine ar_top (w := .int (nI ((64 * b) + k))) (congrArg Value.int (nI_add (64 * b) k)) ?_
        refine ar_CV M_M_word rfl rfl (Or.inl rfl) rfl rfl (Nat.le_of_ble_eq_true rfl) h56 M_M_wordAt (Nat.le_of_ble_eq_true rfl) (c_M_wordAt X d _ h560 hB0 hb hk) (fun r1 h1 hq => ?_)
        obtain ⟨rfl, rfl⟩ := hq
        refine ⟨rfl, ?_⟩
        show ar Pg _ _ _ 31 [some (.ref 56), some (.int (nI b)), some (.int (nI k))] [.int (nI (wd (B b) k))] _ _
        refine ar_go M_M_word 1 _ 35 _ [some (.ref 56), some (.int (nI b)), some (.int (nI k))] _ [.int (nI (wd (B b) k))] rfl ?_
        exact ar_R M_M_word rfl rfl rfl rfl (⟨by rw [wdR, nI_clamp (show b < 2 ^ 31 by omega), nI_clamp (show k < 2 ^ 31 by omega), if_pos (by rw [hcc, rng_t hk (by omega)]; rfl)], rfl⟩)
