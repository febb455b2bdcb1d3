/-! The reference: settled, exchange, list, settle, spread -/
theorem isMS.mv {h h1 : am_H} {S : Sg} {l : List Nat} (H : isMS h S) (hf : fr l h h1) (hl : ∀ k ∈ l, k < 56) : isMS h1 S := by
  obtain ⟨⟨pr, uD, lD, nd, tn, a⟩, b, ⟨T, c⟩, d, e⟩ := H
  exact ⟨⟨pr, uD, lD, nd, tn, hf.at a (fun z => by have := hl _ z; omega)⟩, b.mv hf (fun k h1 h2 z => by have := hl _ z; omega), ⟨T, c.mv hf (fun k h1 h2 z => by have := hl _ z; omega)⟩, d.mv hf (fun k h1 h2 z => by have := hl _ z; omega), e.mv hf (fun z => by have := hl _ z; omega) (fun z => by have := hl _ z; omega)⟩
theorem isMS.b {h : am_H} {S : Sg} (H : isMS h S) : ∀ c, c < 4 → gB (S.1 c) := by
  obtain ⟨_, ⟨sz, nu, ve, gr, dr, _, hc⟩, _⟩ := H
  exact fun c hc4 => (hc c hc4).2.1
theorem isMS.o {h : am_H} {S : Sg} (H : isMS h S) : ∃ fs, h[56]? = some (.inr (5, fs)) := by
  obtain ⟨⟨pr, uD, lD, nd, tn, a⟩, _⟩ := H
  exact ⟨_, a⟩
theorem c_M_listed2 (X : am_X) (d : Nat) (h : am_H) {S : Sg} (hS : isMS h S) {a b : Nat} (ha : a < 4) (hb : b < 4) (hab : a ≠ b) : ar Pg X (d + 1 + 1) n_M_listed 0 [some (.ref 56), some (.int (nI a)), some (.int (nI b)), none, none, none] [] h (fun rr h' => rr = some (.int (lsF S a b).1) ∧ fr mLs h h' ∧ isMS h' (lsF S a b).2) := by
  have hgB := hS.b
  obtain ⟨B, s, u0, U0, l0, W0⟩ := S
  obtain ⟨⟨pr, uD, lD, nd, tn, h56⟩, hB, ⟨T, hT⟩, hMw, hMp⟩ := hS
  dsimp only at h56 hB hMp hgB
  refine ar_mono (c_M_listed X d h h56 hB hT ha hb) (fun rr h1 z => ?_)
  obtain ⟨z1, z2, z3, z4, z5⟩ := z
  have hTT : lsT B a b = tkL b (kn (alB (B a)) (B b)) ++ tkL a (kn (alB (B b)) (B a)) := by rw [lsT, nwL_kn, nwL_kn]
  have hiff := tk_ov (B := B) ha hb hab (fun c hc => (hgB c hc).1) (alB (B b)) (alB (B a))
  have htB := tk_tB (B := B) hab (kn (alB (B a)) (B b)) (kn (alB (B b)) (B a))
  have hlen : (tkL b (kn (alB (B a)) (B b)) ++ tkL a (kn (alB (B b)) (B a))).length = (kn (alB (B b)) (B a)).length + (kn (alB (B a)) (B b)).length := by rw [List.length_append, tkL_len, tkL_len]; omega
  rw [hTT] at z1 z3 z4 z5
  generalize tkL b (kn (alB (B a)) (B b)) ++ tkL a (kn (alB (B b)) (B a)) = TT at *
  have hw := hMw.mv z2 (fun k _ _ => by simp; omega)
  have hp := hMp.mv z2 (by simp) (by simp)
  have hF : fr mLs h h1 := z2.mono (mL_of (by simp))
  by_cases hov : dlF (B a) (B b) (alB (B b)) (alB (B a)) = true
  · have hn : ¬ noOv B TT = true := fun y => by rw [hiff.mp (noOv_iff.mp y)] at hov; exact absurd hov (by decide)
    rw [if_neg hn] at z1 z4
    exact ⟨by rw [z1, lsF]; dsimp only; rw [dlR, if_pos hov], hF, ⟨_, _, _, _, _, z3⟩, by rw [lsF]; dsimp only; rw [dlB, if_pos hov]; exact z4, ⟨_, z5⟩, hw, hp⟩
  · have hn : noOv B TT = true := noOv_iff.mpr (hiff.mpr (by simpa using hov))
    rw [if_pos hn] at z1 z4
    rw [htB] at z4
    exact ⟨by rw [z1, lsF, hlen]; dsimp only; rw [dlR, if_neg hov], hF, ⟨_, _, _, _, _, z3⟩, by rw [lsF]; dsimp only; rw [dlB, if_neg hov]; exact z4, ⟨_, z5⟩, hw, hp⟩
theorem c_M_st_loop (X : am_X) (d : Nat) (h : am_H) {a b : Nat} {y3 : Int32} (ha : a < 4) (hb : b < 4) (hab : a ≠ b) : ∀ (n : Nat) (R : Int32 × Sg) (m : Nat) (h1 : am_H), 1 ≤ m → m ≤ 16 → 16 ≤ m + n → isMS h1 R.2 → fr mLs h h1 → ar Pg X (d + 1 + 1 + 1 + 1 + 1 + 1) n_M_settled 12 [some (.ref 56), some (.int (nI a)), some (.int (nI b)), some (.int y3), some (.int R.1), some (.int (nI m))] [] h1 (fun rr h' => rr = some (.int (if (slL oO a b n R m).1 = -4 then lsF (slL oO a b n R m).2 a b else (slL oO a b n R m)).1) ∧ fr mLs h h' ∧ isMS h' (if (slL oO a b n R m).1 = -4 then lsF (slL oO a b n R m).2 a b else (slL oO a b n R m)).2) := by
  intro n
  induction n with
  | zero =>
    intro R m h1 hm1 hm hmn hS hF
    obtain ⟨fs, h56⟩ := hS.o
    refine ar_go M_M_settled 2 _ 16 _ [some (.ref 56), some (.int (nI a)), some (.int (nI b)), some (.int y3), some (.int R.1), some (.int (nI m))] _ [.int (-4), .int R.1] rfl ?_
    by_cases hR : R.1 = -4
    · refine ar_icmp M_M_settled rfl rfl (fun z => absurd hR (of_decide_eq_true z)) (fun _ => ?_)
      refine ar_go M_M_settled 2 _ 23 _ [some (.ref 56), some (.int (nI a)), some (.int (nI b)), some (.int y3), some (.int R.1), some (.int (nI m))] _ [.int (nI 16), .int (nI m)] rfl ?_
      refine ar_icmp M_M_settled rfl rfl (fun hc => ?_) (fun hc => ?_)
      · have hc := c2_ge_t (a := m) (b := 16) (by omega) (by omega) hc
        have e : slL oO a b 0 R m = R := rfl
        rw [e]
        refine ar_go M_M_settled 2 _ 63 _ [some (.ref 56), some (.int (nI a)), some (.int (nI b)), some (.int y3), some (.int R.1), some (.int (nI m))] _ [.int (-4), .int R.1] rfl ?_
        refine ar_icmp M_M_settled rfl rfl (fun z => absurd hR (of_decide_eq_true z)) (fun _ => ?_)
        refine ar_go M_M_settled 3 _ 69 _ [some (.ref 56), some (.int (nI a)), some (.int (nI b)), some (.int y3), some (.int R.1), some (.int (nI m))] _ [.int (nI b), .int (nI a), .ref 56] rfl ?_
        refine ar_CV M_M_settled rfl rfl (Or.inl rfl) rfl rfl (Nat.le_of_ble_eq_true rfl) h56 M_M_listed (Nat.le_of_ble_eq_true rfl) (c_M_listed2 X (d + 1 + 1 + 1) _ hS ha hb hab) (fun r1 h2 hq => ?_)
        obtain ⟨rfl, hf, hS2⟩ := hq
        refine ⟨hf.1, ?_⟩
        show ar Pg _ _ _ 72 [some (.ref 56), some (.int (nI a)), some (.int (nI b)), some (.int y3), some (.int R.1), some (.int (nI m))] [.int ((lsF R.2 a b).1)] _ _
        refine ar_go M_M_settled 1 _ 77 _ [some (.ref 56), some (.int (nI a)), some (.int (nI b)), some (.int y3), some (.int R.1), some (.int (nI m))] _ [.int ((lsF R.2 a b).1)] rfl ?_
        exact ar_R M_M_settled rfl rfl rfl rfl (⟨by rw [if_pos hR], hF.tr hf (fun _ z => z) (fun _ z => z), by rw [if_pos hR]; exact hS2⟩)
      · have hc := c2_ge_f (a := m) (b := 16) (by omega) (by omega) hc
        omega
    · refine ar_icmp M_M_settled rfl rfl (fun _ => ?_) (fun z => absurd (Decidable.not_not.mp (of_decide_eq_false z)) hR)
      have e : slL oO a b 0 R m = R := rfl
      rw [e]
      refine ar_go M_M_settled 2 _ 63 _ [some (.ref 56), some (.int (nI a)), some (.int (nI b)), some (.int y3), some (.int R.1), some (.int (nI m))] _ [.int (-4), .int R.1] rfl ?_
      refine ar_icmp M_M_settled rfl rfl (fun _ => ?_) (fun z => absurd (Decidable.not_not.mp (of_decide_eq_false z)) hR)
      refine ar_go M_M_settled 1 _ 77 _ [some (.ref 56), some (.int (nI a)), some (.int (nI b)), some (.int y3), some (.int R.1), some (.int (nI m))] _ [.int R.1] rfl ?_
      exact ar_R M_M_settled rfl rfl rfl rfl (⟨by rw [if_neg hR], hF, by rw [if_neg hR]; exact hS⟩)
  | succ n ih =>
    intro R m h1 hm1 hm hmn hS hF
    obtain ⟨fs, h56⟩ := hS.o
    refine ar_go M_M_settled 2 _ 16 _ [some (.ref 56), some (.int (nI a)), some (.int (nI b)), some (.int y3), some (.int R.1), some (.int (nI m))] _ [.int (-4), .int R.1] rfl ?_
    by_cases hR : R.1 = -4
    · refine ar_icmp M_M_settled rfl rfl (fun z => absurd hR (of_decide_eq_true z)) (fun _ => ?_)
      refine ar_go M_M_settled 2 _ 23 _ [some (.ref 56), some (.int (nI a)), some (.int (nI b)), some (.int y3), some (.int R.1), some (.int (nI m))] _ [.int (nI 16), .int (nI m)] rfl ?_
      refine ar_icmp M_M_settled rfl rfl (fun hc => ?_) (fun hc => ?_)
      · have hc := c2_ge_t (a := m) (b := 16) (by omega) (by omega) hc
        have e : slL oO a b (n + 1) R m = R := by rw [slL, if_neg (fun z => absurd z.2 (by omega))]
        rw [e]
        refine ar_go M_M_settled 2 _ 63 _ [some (.ref 56), some (.int (nI a)), some (.int (nI b)), some (.int y3), some (.int R.1), some (.int (nI m))] _ [.int (-4), .int R.1] rfl ?_
        refine ar_icmp M_M_settled rfl rfl (fun z => absurd hR (of_decide_eq_true z)) (fun _ => ?_)
        refine ar_go M_M_settled 3 _ 69 _ [some (.ref 56), some (.int (nI a)), some (.int (nI b)), some (.int y3), some (.int R.1), some (.int (nI m))] _ [.int (nI b), .int (nI a), .ref 56] rfl ?_
        refine ar_CV M_M_settled rfl rfl (Or.inl rfl) rfl rfl (Nat.le_of_ble_eq_true rfl) h56 M_M_listed (Nat.le_of_ble_eq_true rfl) (c_M_listed2 X (d + 1 + 1 + 1) _ hS ha hb hab) (fun r1 h2 hq => ?_)
        obtain ⟨rfl, hf, hS2⟩ := hq
        refine ⟨hf.1, ?_⟩
        show ar Pg _ _ _ 72 [some (.ref 56), some (.int (nI a)), some (.int (nI b)), some (.int y3), some (.int R.1), some (.int (nI m))] [.int ((lsF R.2 a b).1)] _ _
        refine ar_go M_M_settled 1 _ 77 _ [some (.ref 56), some (.int (nI a)), some (.int (nI b)), some (.int y3), some (.int R.1), some (.int (nI m))] _ [.int ((lsF R.2 a b).1)] rfl ?_
        exact ar_R M_M_settled rfl rfl rfl rfl (⟨by rw [if_pos hR], hF.tr hf (fun _ z => z) (fun _ z => z), by rw [if_pos hR]; exact hS2⟩)
      · have hc := c2_ge_f (a := m) (b := 16) (by omega) (by omega) hc
        refine ar_go M_M_settled 3 _ 30 _ [some (.ref 56), some (.int (nI a)), some (.int (nI b)), some (.int y3), some (.int R.1), some (.int (nI m))] _ [.int (nI 2 * nI m)] rfl ?_
        refine ar_top (w := .int (nI (2 * m))) (congrArg Value.int (pk_mul 2 m)) ?_
        refine ar_go M_M_settled 1 _ 32 _ [some (.ref 56), some (.int (nI a)), some (.int (nI b)), some (.int y3), some (.int R.1), some (.int (nI m))] _ [.int (nI 16), .int (nI (2 * m))] rfl ?_
        refine ar_icmp M_M_settled rfl rfl (fun hc2 => ?_) (fun hc2 => ?_)
        · have hc2 := c2_le_t (a := (2 * m)) (b := 16) (by omega) (by omega) hc2
          refine ar_go M_M_settled 3 _ 44 _ [some (.ref 56), some (.int (nI a)), some (.int (nI b)), some (.int y3), some (.int R.1), some (.int (nI m))] _ [.int (nI 2 * nI m)] rfl ?_
          refine ar_top (w := .int (nI (2 * m))) (congrArg Value.int (pk_mul 2 m)) ?_
          refine ar_top (w := .int (nI (mn m))) (congrArg Value.int (by unfold mn; rw [if_neg (by omega)])) ?_
          refine ar_go M_M_settled 5 _ 51 _ [some (.ref 56), some (.int (nI a)), some (.int (nI b)), some (.int y3), some (.int R.1), some (.int (nI (mn m)))] _ [.int (nI (mn m)), .int (nI b), .int (nI a), .ref 56] rfl ?_
          refine ar_CV M_M_settled rfl rfl (Or.inl rfl) rfl rfl (Nat.le_of_ble_eq_true rfl) h56 M_M_exchanged (Nat.le_of_ble_eq_true rfl) (c_M_exchanged X d _ hS ha hb hab (by unfold mn; split <;> omega) (by unfold mn; split <;> omega)) (fun r1 h2 hq => ?_)
          obtain ⟨rfl, hf, hS2⟩ := hq
          refine ⟨hf.1, ?_⟩
          show ar Pg _ _ _ 54 [some (.ref 56), some (.int (nI a)), some (.int (nI b)), some (.int y3), some (.int R.1), some (.int (nI (mn m)))] [.int ((exF oO R.2 a b (mn m)).1)] _ _
          refine ar_go M_M_settled 2 _ 12 _ [some (.ref 56), some (.int (nI a)), some (.int (nI b)), some (.int y3), some (.int ((exF oO R.2 a b (mn m)).1)), some (.int (nI (mn m)))] _ [] rfl ?_
          have e : slL oO a b (n + 1) R m = slL oO a b n (exF oO R.2 a b (mn m)) (mn m) := by rw [slL, if_pos ⟨hR, hc⟩]
          rw [e]
          exact ih (exF oO R.2 a b (mn m)) (mn m) h2 (by unfold mn; split <;> omega) (by unfold mn; split <;> omega) (by unfold mn; split <;> omega) hS2 (hF.tr hf (fun _ z => z) (fun _ z => z))
        · have hc2 := c2_le_f (a := (2 * m)) (b := 16) (by omega) (by omega) hc2
          refine ar_go M_M_settled 2 _ 44 _ [some (.ref 56), some (.int (nI a)), some (.int (nI b)), some (.int y3), some (.int R.1), some (.int (nI m))] _ [.int (nI 16)] rfl ?_
          refine ar_top (w := .int (nI (mn m))) (congrArg Value.int (by unfold mn; rw [if_pos (by omega)])) ?_
          refine ar_go M_M_settled 5 _ 51 _ [some (.ref 56), some (.int (nI a)), some (.int (nI b)), some (.int y3), some (.int R.1), some (.int (nI (mn m)))] _ [.int (nI (mn m)), .int (nI b), .int (nI a), .ref 56] rfl ?_
          refine ar_CV M_M_settled rfl rfl (Or.inl rfl) rfl rfl (Nat.le_of_ble_eq_true rfl) h56 M_M_exchanged (Nat.le_of_ble_eq_true rfl) (c_M_exchanged X d _ hS ha hb hab (by unfold mn; split <;> omega) (by unfold mn; split <;> omega)) (fun r1 h2 hq => ?_)
          obtain ⟨rfl, hf, hS2⟩ := hq
          refine ⟨hf.1, ?_⟩
          show ar Pg _ _ _ 54 [some (.ref 56), some (.int (nI a)), some (.int (nI b)), some (.int y3), some (.int R.1), some (.int (nI (mn m)))] [.int ((exF oO R.2 a b (mn m)).1)] _ _
          refine ar_go M_M_settled 2 _ 12 _ [some (.ref 56), some (.int (nI a)), some (.int (nI b)), some (.int y3), some (.int ((exF oO R.2 a b (mn m)).1)), some (.int (nI (mn m)))] _ [] rfl ?_
          have e : slL oO a b (n + 1) R m = slL oO a b n (exF oO R.2 a b (mn m)) (mn m) := by rw [slL, if_pos ⟨hR, hc⟩]
          rw [e]
          exact ih (exF oO R.2 a b (mn m)) (mn m) h2 (by unfold mn; split <;> omega) (by unfold mn; split <;> omega) (by unfold mn; split <;> omega) hS2 (hF.tr hf (fun _ z => z) (fun _ z => z))
    · refine ar_icmp M_M_settled rfl rfl (fun _ => ?_) (fun z => absurd (Decidable.not_not.mp (of_decide_eq_false z)) hR)
      have e : slL oO a b (n + 1) R m = R := by rw [slL, if_neg (fun z => hR z.1)]
      rw [e]
      refine ar_go M_M_settled 2 _ 63 _ [some (.ref 56), some (.int (nI a)), some (.int (nI b)), some (.int y3), some (.int R.1), some (.int (nI m))] _ [.int (-4), .int R.1] rfl ?_
      refine ar_icmp M_M_settled rfl rfl (fun _ => ?_) (fun z => absurd (Decidable.not_not.mp (of_decide_eq_false z)) hR)
      refine ar_go M_M_settled 1 _ 77 _ [some (.ref 56), some (.int (nI a)), some (.int (nI b)), some (.int y3), some (.int R.1), some (.int (nI m))] _ [.int R.1] rfl ?_
      exact ar_R M_M_settled rfl rfl rfl rfl (⟨by rw [if_neg hR], hF, by rw [if_neg hR]; exact hS⟩)
theorem c_M_settled (X : am_X) (d : Nat) (h : am_H) {S : Sg} (hS : isMS h S) {a b m : Nat} (ha : a < 4) (hb : b < 4) (hab : a ≠ b) (hm1 : 1 ≤ m) (hm : m ≤ 16) : ar Pg X (d + 1 + 1 + 1 + 1 + 1 + 1) n_M_settled 0 [some (.ref 56), some (.int (nI a)), some (.int (nI b)), some (.int (nI m)), none, none] [] h (fun rr h' => rr = some (.int (stF oO S a b m).1) ∧ fr mLs h h' ∧ isMS h' (stF oO S a b m).2) := by
  obtain ⟨fs, h56⟩ := hS.o
  unfold stF
  refine ar_go M_M_settled 4 _ 4 _ [some (.ref 56), some (.int (nI a)), some (.int (nI b)), some (.int (nI m)), none, none] _ [.int (nI m), .int (nI b), .int (nI a), .ref 56] rfl ?_
  refine ar_CV M_M_settled rfl rfl (Or.inl rfl) rfl rfl (Nat.le_of_ble_eq_true rfl) h56 M_M_exchanged (Nat.le_of_ble_eq_true rfl) (c_M_exchanged X d _ hS ha hb hab hm1 hm) (fun r1 h1 hq => ?_)
  obtain ⟨rfl, hf, hS2⟩ := hq
  refine ⟨hf.1, ?_⟩
  show ar Pg _ _ _ 7 [some (.ref 56), some (.int (nI a)), some (.int (nI b)), some (.int (nI m)), none, none] [.int ((exF oO S a b m).1)] _ _
  refine ar_go M_M_settled 3 _ 12 _ [some (.ref 56), some (.int (nI a)), some (.int (nI b)), some (.int (nI m)), some (.int ((exF oO S a b m).1)), some (.int (nI m))] _ [] rfl ?_
  exact c_M_st_loop X d h ha hb hab 15 (exF oO S a b m) m h1 hm1 hm (by omega) hS2 hf
theorem c_M_exchange (X : am_X) (d : Nat) (h : am_H) {S : Sg} (hS : isMS h S) (v w x : Int32) : ar Pg X (d + 1 + 1 + 1 + 1 + 1 + 1) n_M_exchange 0 [some (.ref 56), some (.int v), some (.int w), some (.int x)] [] h (fun rr h' => rr = some (.int (exchF oO S v w x).1) ∧ fr mLs h h' ∧ isMS h' (exchF oO S v w x).2) := by
  obtain ⟨fs, h56⟩ := hS.o
  refine ar_go M_M_exchange 2 _ 2 _ [some (.ref 56), some (.int v), some (.int w), some (.int x)] _ [.int w, .int v] rfl ?_
  refine ar_CS M_M_exchange rfl rfl (Nat.le_of_ble_eq_true rfl) rfl rfl (Nat.le_of_ble_eq_true rfl) M_M_areTwo (Nat.le_of_ble_eq_true rfl) (c_M_areTwo X _ _ v w) (fun r1 h1 hq => ?_)
  obtain ⟨rfl, rfl⟩ := hq
  refine ⟨rfl, ?_⟩
  show ar Pg _ _ _ 5 [some (.ref 56), some (.int v), some (.int w), some (.int x)] [.int (bi (twB v w))] _ _
  refine ar_if M_M_exchange rfl rfl (fun hc1 => ?_) (fun hc1 => ?_)
  · have hc1 := bi_eq_t hc1
    refine ar_go M_M_exchange 1 _ 26 _ [some (.ref 56), some (.int v), some (.int w), some (.int x)] _ [.int (-1)] rfl ?_
    exact ar_R M_M_exchange rfl rfl rfl rfl (⟨by rw [exchF, if_neg (by simp [hc1])], fr.rf _ _, by rw [exchF, if_neg (by simp [hc1])]; exact hS⟩)
  · have hc1 := bi_eq_f hc1
    obtain ⟨a, b, ha, hb, hab, rfl, rfl⟩ := twB_ex hc1
    refine ar_go M_M_exchange 1 _ 9 _ [some (.ref 56), some (.int (nI a)), some (.int (nI b)), some (.int x)] _ [.int x] rfl ?_
    refine ar_CS M_M_exchange rfl rfl (Nat.le_of_ble_eq_true rfl) rfl rfl (Nat.le_of_ble_eq_true rfl) M_M_isMany (Nat.le_of_ble_eq_true rfl) (c_M_isMany X _ _ x) (fun r1 h1 hq => ?_)
    obtain ⟨rfl, rfl⟩ := hq
    refine ⟨rfl, ?_⟩
    show ar Pg _ _ _ 12 [some (.ref 56), some (.int (nI a)), some (.int (nI b)), some (.int x)] [.int (bi (rch x))] _ _
    refine ar_if M_M_exchange rfl rfl (fun hc2 => ?_) (fun hc2 => ?_)
    · have hc2 := bi_eq_t hc2
      refine ar_go M_M_exchange 1 _ 26 _ [some (.ref 56), some (.int (nI a)), some (.int (nI b)), some (.int x)] _ [.int (-1)] rfl ?_
      exact ar_R M_M_exchange rfl rfl rfl rfl (⟨by rw [exchF, if_neg (by simp [hc2])], fr.rf _ _, by rw [exchF, if_neg (by simp [hc2])]; exact hS⟩)
    · have hc2 := bi_eq_f hc2
      have hc3 := hc2
      obtain ⟨m, hm1, hm, rfl⟩ := rch_ex hc2
      refine ar_go M_M_exchange 4 _ 19 _ [some (.ref 56), some (.int (nI a)), some (.int (nI b)), some (.int (nI m))] _ [.int (nI m), .int (nI b), .int (nI a), .ref 56] rfl ?_
      refine ar_CV M_M_exchange rfl rfl (Or.inl rfl) rfl rfl (Nat.le_of_ble_eq_true rfl) h56 M_M_exchanged (Nat.le_of_ble_eq_true rfl) (c_M_exchanged X d _ hS ha hb hab hm1 hm) (fun r1 h1 hq => ?_)
      obtain ⟨rfl, hf, hS2⟩ := hq
      refine ⟨hf.1, ?_⟩
      show ar Pg _ _ _ 22 [some (.ref 56), some (.int (nI a)), some (.int (nI b)), some (.int (nI m))] [.int ((exF oO S a b m).1)] _ _
      refine ar_go M_M_exchange 1 _ 26 _ [some (.ref 56), some (.int (nI a)), some (.int (nI b)), some (.int (nI m))] _ [.int ((exF oO S a b m).1)] rfl ?_
      exact ar_R M_M_exchange rfl rfl rfl rfl (⟨by rw [exchF, if_pos (by rw [hc1, hc3]; rfl), nI_clamp (show a < 2 ^ 31 by omega), nI_clamp (show b < 2 ^ 31 by omega), nI_clamp (show m < 2 ^ 31 by omega)], hf, by rw [exchF, if_pos (by rw [hc1, hc3]; rfl), nI_clamp (show a < 2 ^ 31 by omega), nI_clamp (show b < 2 ^ 31 by omega), nI_clamp (show m < 2 ^ 31 by omega)]; exact hS2⟩)
theorem c_M_settle (X : am_X) (d : Nat) (h : am_H) {S : Sg} (hS : isMS h S) (v w x : Int32) : ar Pg X (d + 1 + 1 + 1 + 1 + 1 + 1 + 1) n_M_settle 0 [some (.ref 56), some (.int v), some (.int w), some (.int x)] [] h (fun rr h' => rr = some (.int (setF oO S v w x).1) ∧ fr mLs h h' ∧ isMS h' (setF oO S v w x).2) := by
  obtain ⟨fs, h56⟩ := hS.o
  refine ar_go M_M_settle 2 _ 2 _ [some (.ref 56), some (.int v), some (.int w), some (.int x)] _ [.int w, .int v] rfl ?_
  refine ar_CS M_M_settle rfl rfl (Nat.le_of_ble_eq_true rfl) rfl rfl (Nat.le_of_ble_eq_true rfl) M_M_areTwo (Nat.le_of_ble_eq_true rfl) (c_M_areTwo X _ _ v w) (fun r1 h1 hq => ?_)
  obtain ⟨rfl, rfl⟩ := hq
  refine ⟨rfl, ?_⟩
  show ar Pg _ _ _ 5 [some (.ref 56), some (.int v), some (.int w), some (.int x)] [.int (bi (twB v w))] _ _
  refine ar_if M_M_settle rfl rfl (fun hc1 => ?_) (fun hc1 => ?_)
  · have hc1 := bi_eq_t hc1
    refine ar_go M_M_settle 1 _ 26 _ [some (.ref 56), some (.int v), some (.int w), some (.int x)] _ [.int (-1)] rfl ?_
    exact ar_R M_M_settle rfl rfl rfl rfl (⟨by rw [setF, if_neg (by simp [hc1])], fr.rf _ _, by rw [setF, if_neg (by simp [hc1])]; exact hS⟩)
  · have hc1 := bi_eq_f hc1
    obtain ⟨a, b, ha, hb, hab, rfl, rfl⟩ := twB_ex hc1
    refine ar_go M_M_settle 1 _ 9 _ [some (.ref 56), some (.int (nI a)), some (.int (nI b)), some (.int x)] _ [.int x] rfl ?_
    refine ar_CS M_M_settle rfl rfl (Nat.le_of_ble_eq_true rfl) rfl rfl (Nat.le_of_ble_eq_true rfl) M_M_isMany (Nat.le_of_ble_eq_true rfl) (c_M_isMany X _ _ x) (fun r1 h1 hq => ?_)
    obtain ⟨rfl, rfl⟩ := hq
    refine ⟨rfl, ?_⟩
    show ar Pg _ _ _ 12 [some (.ref 56), some (.int (nI a)), some (.int (nI b)), some (.int x)] [.int (bi (rch x))] _ _
    refine ar_if M_M_settle rfl rfl (fun hc2 => ?_) (fun hc2 => ?_)
    · have hc2 := bi_eq_t hc2
      refine ar_go M_M_settle 1 _ 26 _ [some (.ref 56), some (.int (nI a)), some (.int (nI b)), some (.int x)] _ [.int (-1)] rfl ?_
      exact ar_R M_M_settle rfl rfl rfl rfl (⟨by rw [setF, if_neg (by simp [hc2])], fr.rf _ _, by rw [setF, if_neg (by simp [hc2])]; exact hS⟩)
    · have hc2 := bi_eq_f hc2
      have hc3 := hc2
      obtain ⟨m, hm1, hm, rfl⟩ := rch_ex hc2
      refine ar_go M_M_settle 4 _ 19 _ [some (.ref 56), some (.int (nI a)), some (.int (nI b)), some (.int (nI m))] _ [.int (nI m), .int (nI b), .int (nI a), .ref 56] rfl ?_
      refine ar_CV M_M_settle rfl rfl (Or.inl rfl) rfl rfl (Nat.le_of_ble_eq_true rfl) h56 M_M_settled (Nat.le_of_ble_eq_true rfl) (c_M_settled X d _ hS ha hb hab hm1 hm) (fun r1 h1 hq => ?_)
      obtain ⟨rfl, hf, hS2⟩ := hq
      refine ⟨hf.1, ?_⟩
      show ar Pg _ _ _ 22 [some (.ref 56), some (.int (nI a)), some (.int (nI b)), some (.int (nI m))] [.int ((stF oO S a b m).1)] _ _
      refine ar_go M_M_settle 1 _ 26 _ [some (.ref 56), some (.int (nI a)), some (.int (nI b)), some (.int (nI m))] _ [.int ((stF oO S a b m).1)] rfl ?_
      exact ar_R M_M_settle rfl rfl rfl rfl (⟨by rw [setF, if_pos (by rw [hc1, hc3]; rfl), nI_clamp (show a < 2 ^ 31 by omega), nI_clamp (show b < 2 ^ 31 by omega), nI_clamp (show m < 2 ^ 31 by omega)], hf, by rw [setF, if_pos (by rw [hc1, hc3]; rfl), nI_clamp (show a < 2 ^ 31 by omega), nI_clamp (show b < 2 ^ 31 by omega), nI_clamp (show m < 2 ^ 31 by omega)]; exact hS2⟩)
theorem c_M_list (X : am_X) (d : Nat) (h : am_H) {S : Sg} (hS : isMS h S) (v w : Int32) : ar Pg X (d + 1 + 1 + 1) n_M_list 0 [some (.ref 56), some (.int v), some (.int w)] [] h (fun rr h' => rr = some (.int (listF S v w).1) ∧ fr mLs h h' ∧ isMS h' (listF S v w).2) := by
  obtain ⟨fs, h56⟩ := hS.o
  refine ar_go M_M_list 2 _ 2 _ [some (.ref 56), some (.int v), some (.int w)] _ [.int w, .int v] rfl ?_
  refine ar_CS M_M_list rfl rfl (Nat.le_of_ble_eq_true rfl) rfl rfl (Nat.le_of_ble_eq_true rfl) M_M_areTwo (Nat.le_of_ble_eq_true rfl) (c_M_areTwo X _ _ v w) (fun r1 h1 hq => ?_)
  obtain ⟨rfl, rfl⟩ := hq
  refine ⟨rfl, ?_⟩
  show ar Pg _ _ _ 5 [some (.ref 56), some (.int v), some (.int w)] [.int (bi (twB v w))] _ _
  refine ar_if M_M_list rfl rfl (fun hc1 => ?_) (fun hc1 => ?_)
  · have hc1 := bi_eq_t hc1
    refine ar_go M_M_list 1 _ 18 _ [some (.ref 56), some (.int v), some (.int w)] _ [.int (-1)] rfl ?_
    exact ar_R M_M_list rfl rfl rfl rfl (⟨by rw [listF, if_neg (by simp [hc1])], fr.rf _ _, by rw [listF, if_neg (by simp [hc1])]; exact hS⟩)
  · have hc1 := bi_eq_f hc1
    obtain ⟨a, b, ha, hb, hab, rfl, rfl⟩ := twB_ex hc1
    refine ar_go M_M_list 3 _ 11 _ [some (.ref 56), some (.int (nI a)), some (.int (nI b))] _ [.int (nI b), .int (nI a), .ref 56] rfl ?_
    refine ar_CV M_M_list rfl rfl (Or.inl rfl) rfl rfl (Nat.le_of_ble_eq_true rfl) h56 M_M_listed (Nat.le_of_ble_eq_true rfl) (c_M_listed2 X d _ hS ha hb hab) (fun r1 h1 hq => ?_)
    obtain ⟨rfl, hf, hS2⟩ := hq
    refine ⟨hf.1, ?_⟩
    show ar Pg _ _ _ 14 [some (.ref 56), some (.int (nI a)), some (.int (nI b))] [.int ((lsF S a b).1)] _ _
    refine ar_go M_M_list 1 _ 18 _ [some (.ref 56), some (.int (nI a)), some (.int (nI b))] _ [.int ((lsF S a b).1)] rfl ?_
    exact ar_R M_M_list rfl rfl rfl rfl (⟨by rw [listF, if_pos (hc1), nI_clamp (show a < 2 ^ 31 by omega), nI_clamp (show b < 2 ^ 31 by omega)], hf, by rw [listF, if_pos (hc1), nI_clamp (show a < 2 ^ 31 by omega), nI_clamp (show b < 2 ^ 31 by omega)]; exact hS2⟩)
