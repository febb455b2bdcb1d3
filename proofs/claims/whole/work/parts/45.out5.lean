/-! The class: runExchange and what calls it -/
theorem i64z (x : Int64) : x + 0 = x := Int64.add_zero x
theorem c_B_runExchange (O : exT) (hOk : clOk O) (hE : eu_law) (X : am_X) (d : Nat) (h : am_H) {B : Nat → Bk} {s : Int64} {u : Nat} {U : Nat → Nat} {l : Nat} {W : Nat → Nat} (hC : isCl h B s u U l W) {a b m : Nat} (ha : a < 4) (hb : b < 4) (hne : a ≠ b) (hm1 : 1 ≤ m) (hm : m ≤ 16) : ar Pg X (d + 1 + 1 + 1 + 1) n_B_runExchange 0 [some (.ref 0), some (.ref (40 + 4 * a)), some (.ref (40 + 4 * b)), some (.int (nI m)), none, none, none, none] [] h (fun rr h' => rr = some (.int (exF O (B, s, u, U, l, W) a b m).1) ∧ isS h' (exF O (B, s, u, U, l, W) a b m).2 ∧ fr clL h h') := by
  have gA : gB (B a) := ⟨(hC.2.2.1 a ha).1.1, (hC.2.2.1 a ha).2⟩
  have gBb : gB (B b) := ⟨(hC.2.2.1 b hb).1.1, (hC.2.2.1 b hb).2⟩
  obtain ⟨ho1, ho2⟩ := hOk m (B a) (B b) hm1 hm gA gBb
  have h0 : h[0]? = some (.inr (0, [.ref 1, .ref 2, .ref 6, .ref 10, .long s])) := hC.1
  refine ar_go M_B_runExchange 2 _ 2 _ [some (.ref 0), some (.ref (40 + 4 * a)), some (.ref (40 + 4 * b)), some (.int (nI m)), none, none, none, none] _ [.ref 0, .ref 0] rfl ?_
  refine ar_get M_B_runExchange rfl rfl h0 rfl ?_
  refine ar_go M_B_runExchange 3 _ 8 _ [some (.ref 0), some (.ref (40 + 4 * a)), some (.ref (40 + 4 * b)), some (.int (nI m)), none, none, none, none] _ [.int (nI m + nI 3), .long s, .ref 0] rfl ?_
  refine ar_top (w := .int (nI (m + 3))) (congrArg Value.int (nI_add m 3)) ?_
  refine ar_go M_B_runExchange 1 _ 9 _ [some (.ref 0), some (.ref (40 + 4 * a)), some (.ref (40 + 4 * b)), some (.int (nI m)), none, none, none, none] _ [.long ((nI (m + 3)).toInt64), .long s, .ref 0] rfl ?_
  refine ar_top (w := .long (lN (m + 3))) (congrArg Value.long (nI_l (by omega))) ?_
  refine ar_go M_B_runExchange 1 _ 10 _ [some (.ref 0), some (.ref (40 + 4 * a)), some (.ref (40 + 4 * b)), some (.int (nI m)), none, none, none, none] _ [.long (s + lN (m + 3)), .ref 0] rfl ?_
  refine ar_put M_B_runExchange rfl rfl h0 (Nat.le_of_ble_eq_true rfl) rfl (Nat.le_of_ble_eq_true rfl) (fun h2 hf he => ?_)
  have h0 : h2[0]? = some (.inr (0, [.ref 1, .ref 2, .ref 6, .ref 10, .long (s + lN (m + 3))])) := he
  have hF0 : fr clL h h2 := hf.mono (by decide)
  have hC := hC.snt hf h0
  refine ar_go M_B_runExchange 1 _ 14 _ [some (.ref 0), some (.ref (40 + 4 * a)), some (.ref (40 + 4 * b)), some (.int (nI m)), none, none, none, none] _ [.ref 0] rfl ?_
  refine ar_get M_B_runExchange rfl rfl hC.1 rfl ?_
  refine ar_go M_B_runExchange 3 _ 20 _ [some (.ref 0), some (.ref (40 + 4 * a)), some (.ref (40 + 4 * b)), some (.int (nI m)), none, none, none, none] _ [.int (nI m), .ref (40 + 4 * b), .ref (40 + 4 * a), .ref 10] rfl ?_
  refine ar_CV M_B_runExchange rfl rfl (Or.inl rfl) rfl rfl (Nat.le_of_ble_eq_true rfl) hC.2.2.2.1.1 M_A_find (Nat.le_of_ble_eq_true rfl) (c_A_find2 X d _ hC ha hb hm1 hm) (fun r1 h3 hq => ?_)
  obtain ⟨ok, rfl, hf1, hno, hyes⟩ := hq
  refine ⟨hf1.1, ?_⟩
  have hF1 : fr clL h h3 := hF0.tr hf1 (fun _ z => z) (fun _ z => z)
  show ar Pg _ _ _ 23 [some (.ref 0), some (.ref (40 + 4 * a)), some (.ref (40 + 4 * b)), some (.int (nI m)), none, none, none, none] [.int (bi ok)] _ _
  refine ar_if M_B_runExchange rfl rfl (fun hc => ?_) (fun hc => ?_)
  · have hc := bi_ne_t hc
    obtain ⟨U0, W0, SA, SB, hY, hC, hU0, hW0, h38, hSA, h39, hSB, eSA, eSB⟩ := hyes hc
    have hY0 := hY
    obtain ⟨_, _, _, _, _, _, _, _, _, _, _, _, _, _, e1, e2⟩ := hY0
    have hu1 : U0 (uN m (B a).length (B b).length) = 1 := by rw [e1]; exact fdP_top _ _ _ _ _
    have hl1 : W0 (lN2 m (B a).length (B b).length) = 1 := by rw [e2]; exact fdP_top _ _ _ _ _
    refine ar_go M_B_runExchange 1 _ 30 _ [some (.ref 0), some (.ref (40 + 4 * a)), some (.ref (40 + 4 * b)), some (.int (nI m)), none, none, none, none] _ [.ref 0] rfl ?_
    refine ar_get M_B_runExchange rfl rfl hC.1 rfl ?_
    refine ar_CV M_B_runExchange rfl rfl (Or.inl rfl) rfl rfl (Nat.le_of_ble_eq_true rfl) hC.2.2.2.1.1 M_A_reduce (Nat.le_of_ble_eq_true rfl) (c_A_red2 hE X d _ hC hU0 hW0 hu1 hl1) (fun r1 h4 hq => ?_)
    obtain ⟨rfl, hf2, u2, U2, l2, W2, hrd, hU2, hW2, hC⟩ := hq
    refine ⟨hf2.1, ?_⟩
    have hF2 : fr clL h h4 := hF1.tr hf2 (fun _ z => z) (by decide)
    obtain ⟨U3, W3, hO, eU, eW⟩ := ho2 u2 U2 l2 W2 ⟨U0, W0, hY, hrd⟩
    have h38 : isLA h4 38 18 SA := hf2.at h38 (by simp)
    have h39 : isLA h4 39 18 SB := hf2.at h39 (by simp)
    have hu17 := hU2.1
    have hl17 := hW2.1
    have hC : isCl h4 B (s + lN (m + 3)) u2 U3 l2 W3 := hC.rd (fr.rf _ _) hC.2.2.2.1.2.2.2.1 hC.2.2.2.1.2.2.2.2.1 ⟨U2, W2, hU2, hW2, eU, eW⟩
    show ar Pg _ _ _ 36 [some (.ref 0), some (.ref (40 + 4 * a)), some (.ref (40 + 4 * b)), some (.int (nI m)), none, none, none, none] [] _ _
    refine ar_go M_B_runExchange 1 _ 37 _ [some (.ref 0), some (.ref (40 + 4 * a)), some (.ref (40 + 4 * b)), some (.int (nI m)), none, none, none, none] _ [.ref 0] rfl ?_
    refine ar_get M_B_runExchange rfl rfl hC.1 rfl ?_
    refine ar_get M_B_runExchange rfl rfl hC.2.2.2.1.1 rfl ?_
    refine ar_go M_B_runExchange 2 _ 46 _ [some (.ref 0), some (.ref (40 + 4 * a)), some (.ref (40 + 4 * b)), some (.int (nI m)), some (.ref 11), none, none, none] _ [.ref 0] rfl ?_
    refine ar_get M_B_runExchange rfl rfl hC.1 rfl ?_
    refine ar_get M_B_runExchange rfl rfl hC.2.2.2.1.1 rfl ?_
    refine ar_go M_B_runExchange 3 _ 56 _ [some (.ref 0), some (.ref (40 + 4 * a)), some (.ref (40 + 4 * b)), some (.int (nI m)), some (.ref 11), some (.ref 13), none, none] _ [.ref 0, .ref 0] rfl ?_
    refine ar_get M_B_runExchange rfl rfl hC.1 rfl ?_
    refine ar_go M_B_runExchange 1 _ 61 _ [some (.ref 0), some (.ref (40 + 4 * a)), some (.ref (40 + 4 * b)), some (.int (nI m)), some (.ref 11), some (.ref 13), none, none] _ [.ref 11, .long (s + lN (m + 3)), .ref 0] rfl ?_
    refine ar_get M_B_runExchange rfl rfl hU2.2.1 rfl ?_
    refine ar_go M_B_runExchange 1 _ 66 _ [some (.ref 0), some (.ref (40 + 4 * a)), some (.ref (40 + 4 * b)), some (.int (nI m)), some (.ref 11), some (.ref 13), none, none] _ [.ref 13, .int (nI u2), .long (s + lN (m + 3)), .ref 0] rfl ?_
    refine ar_get M_B_runExchange rfl rfl hW2.2.1 rfl ?_
    refine ar_go M_B_runExchange 1 _ 70 _ [some (.ref 0), some (.ref (40 + 4 * a)), some (.ref (40 + 4 * b)), some (.int (nI m)), some (.ref 11), some (.ref 13), none, none] _ [.int (nI u2 + nI l2), .long (s + lN (m + 3)), .ref 0] rfl ?_
    refine ar_top (w := .int (nI (u2 + l2))) (congrArg Value.int (nI_add u2 l2)) ?_
    refine ar_go M_B_runExchange 1 _ 71 _ [some (.ref 0), some (.ref (40 + 4 * a)), some (.ref (40 + 4 * b)), some (.int (nI m)), some (.ref 11), some (.ref 13), none, none] _ [.long ((nI (u2 + l2)).toInt64), .long (s + lN (m + 3)), .ref 0] rfl ?_
    refine ar_top (w := .long (lN (u2 + l2))) (congrArg Value.long (nI_l (by omega))) ?_
    refine ar_go M_B_runExchange 1 _ 72 _ [some (.ref 0), some (.ref (40 + 4 * a)), some (.ref (40 + 4 * b)), some (.int (nI m)), some (.ref 11), some (.ref 13), none, none] _ [.long ((s + lN (m + 3)) + lN (u2 + l2)), .ref 0] rfl ?_
    have h0 : h4[0]? = some (.inr (0, [.ref 1, .ref 2, .ref 6, .ref 10, .long (s + lN (m + 3))])) := hC.1
    refine ar_put M_B_runExchange rfl rfl h0 (Nat.le_of_ble_eq_true rfl) rfl (Nat.le_of_ble_eq_true rfl) (fun h5 hf he => ?_)
    have h0 : h5[0]? = some (.inr (0, [.ref 1, .ref 2, .ref 6, .ref 10, .long ((s + lN (m + 3)) + lN (u2 + l2))])) := he
    have hF3 : fr clL h h5 := hF2.tr hf (fun _ z => z) (by decide)
    have hC := hC.snt hf h0
    have hU2 := hU2.fr hf (by simp) (by simp)
    have hW2 := hW2.fr hf (by simp) (by simp)
    have h38 : isLA h5 38 18 SA := hf.at h38 (by simp)
    have h39 : isLA h5 39 18 SB := hf.at h39 (by simp)
    obtain ⟨_, ⟨l1, hP1⟩, ⟨l6, hP2⟩, _⟩ := hC.2.2.2.1
    refine ar_go M_B_runExchange 1 _ 76 _ [some (.ref 0), some (.ref (40 + 4 * a)), some (.ref (40 + 4 * b)), some (.int (nI m)), some (.ref 11), some (.ref 13), none, none] _ [.ref 0] rfl ?_
    refine ar_get M_B_runExchange rfl rfl hC.1 rfl ?_
    refine ar_go M_B_runExchange 2 _ 82 _ [some (.ref 0), some (.ref (40 + 4 * a)), some (.ref (40 + 4 * b)), some (.int (nI m)), some (.ref 11), some (.ref 13), none, none] _ [.ref 13, .ref (40 + 4 * b), .ref 2] rfl ?_
    refine ar_CV M_B_runExchange rfl rfl (Or.inl rfl) rfl rfl (Nat.le_of_ble_eq_true rfl) hP1.2.1 M_R_becomeZerosAmong (Nat.le_of_ble_eq_true rfl) (c_R_becomeZerosAmong X (d + 1) _ (r := 2) (s := 40 + 4 * b) (y := 13) hW2 (by omega) (by omega) (hC.2.2.1 b hb).2.2.W (hC.2.2.1 b hb).1 (by omega) (by omega) (by omega) hP1) (fun r1 h6 hq => ?_)
    obtain ⟨rfl, hf3, hP1⟩ := hq
    refine ⟨hf3.1, ?_⟩
    have hC := hC.par1 hf3 hP1
    have hP1 : isR h6 2 (zr (B b) l2 W3) := by rw [← zr_congr eW]; exact hP1
    have hP2 := hP2.fr hf3 (by simp) (by simp) (by simp) (by simp)
    have hU2 := hU2.fr hf3 (by simp) (by simp)
    have hW2 := hW2.fr hf3 (by simp) (by simp)
    have h38 : isLA h6 38 18 SA := hf3.at h38 (by simp)
    have h39 : isLA h6 39 18 SB := hf3.at h39 (by simp)
    have hF4 : fr clL h h6 := hF3.tr (hf3.mono par1_cl) (fun _ z => z) (fun _ z => z)
    show ar Pg _ _ _ 85 [some (.ref 0), some (.ref (40 + 4 * a)), some (.ref (40 + 4 * b)), some (.int (nI m)), some (.ref 11), some (.ref 13), none, none] [] _ _
    refine ar_go M_B_runExchange 1 _ 86 _ [some (.ref 0), some (.ref (40 + 4 * a)), some (.ref (40 + 4 * b)), some (.int (nI m)), some (.ref 11), some (.ref 13), none, none] _ [.ref 0] rfl ?_
    refine ar_get M_B_runExchange rfl rfl hC.1 rfl ?_
    refine ar_go M_B_runExchange 2 _ 92 _ [some (.ref 0), some (.ref (40 + 4 * a)), some (.ref (40 + 4 * b)), some (.int (nI m)), some (.ref 11), some (.ref 13), none, none] _ [.ref 11, .ref (40 + 4 * a), .ref 6] rfl ?_
    refine ar_CV M_B_runExchange rfl rfl (Or.inl rfl) rfl rfl (Nat.le_of_ble_eq_true rfl) hP2.2.1 M_R_becomeZerosAmong (Nat.le_of_ble_eq_true rfl) (c_R_becomeZerosAmong X (d + 1) _ (r := 6) (s := 40 + 4 * a) (y := 11) hU2 (by omega) (by omega) (hC.2.2.1 a ha).2.2.W (hC.2.2.1 a ha).1 (by omega) (by omega) (by omega) hP2) (fun r1 h7 hq => ?_)
    obtain ⟨rfl, hf4, hP2⟩ := hq
    refine ⟨hf4.1, ?_⟩
    have hC := hC.par2 hf4 hP2
    have hP2 : isR h7 6 (zr (B a) u2 U3) := by rw [← zr_congr eU]; exact hP2
    have hP1 := hP1.fr hf4 (by simp) (by simp) (by simp) (by simp)
    have hU2 := hU2.fr hf4 (by simp) (by simp)
    have hW2 := hW2.fr hf4 (by simp) (by simp)
    have h38 : isLA h7 38 18 SA := hf4.at h38 (by simp)
    have h39 : isLA h7 39 18 SB := hf4.at h39 (by simp)
    have hF5 : fr clL h h7 := hF4.tr (hf4.mono par2_cl) (fun _ z => z) (fun _ z => z)
    have l1 := hP1.1
    have l2b := hP2.1
    show ar Pg _ _ _ 95 [some (.ref 0), some (.ref (40 + 4 * a)), some (.ref (40 + 4 * b)), some (.int (nI m)), some (.ref 11), some (.ref 13), none, none] [] _ _
    refine ar_go M_B_runExchange 1 _ 96 _ [some (.ref 0), some (.ref (40 + 4 * a)), some (.ref (40 + 4 * b)), some (.int (nI m)), some (.ref 11), some (.ref 13), none, none] _ [.ref 0] rfl ?_
    refine ar_get M_B_runExchange rfl rfl hC.1 rfl ?_
    refine ar_get M_B_runExchange rfl rfl hP1.2.1 rfl ?_
    refine ar_go M_B_runExchange 1 _ 104 _ [some (.ref 0), some (.ref (40 + 4 * a)), some (.ref (40 + 4 * b)), some (.int (nI m)), some (.ref 11), some (.ref 13), none, none] _ [.ref 13, .int (nI ((zr (B b) l2 W3).length))] rfl ?_
    refine ar_get M_B_runExchange rfl rfl hW2.2.1 rfl ?_
    refine ar_icmp M_B_runExchange rfl rfl (fun hc2 => ?_) (fun hc2 => ?_)
    · have hc2 := c2_ne_t (a := ((zr (B b) l2 W3).length)) (b := l2) (by omega) (by omega) hc2
      have hck : ckB m (B a) (B b) u2 U3 l2 W3 = false := by unfold ckB; rw [decide_eq_false hc2, Bool.false_and]
      refine ar_go M_B_runExchange 3 _ 134 _ [some (.ref 0), some (.ref (40 + 4 * a)), some (.ref (40 + 4 * b)), some (.int (nI m)), some (.ref 11), some (.ref 13), some (.int (nI 0)), none] _ [.int (nI 0)] rfl ?_
      refine ar_if M_B_runExchange rfl rfl (fun _ => ?_) (fun z => absurd z (by decide))
      refine ar_go M_B_runExchange 1 _ 152 _ [some (.ref 0), some (.ref (40 + 4 * a)), some (.ref (40 + 4 * b)), some (.int (nI m)), some (.ref 11), some (.ref 13), some (.int (nI 0)), none] _ [.int (-4)] rfl ?_
      exact ar_R M_B_runExchange rfl rfl rfl rfl (⟨by simp only [exF, hO, hck] <;> rfl, by simp only [exF, hO, hck]; exact hC, hF5⟩)
    · have hc2 := c2_ne_f (a := ((zr (B b) l2 W3).length)) (b := l2) (by omega) (by omega) hc2
      refine ar_go M_B_runExchange 1 _ 111 _ [some (.ref 0), some (.ref (40 + 4 * a)), some (.ref (40 + 4 * b)), some (.int (nI m)), some (.ref 11), some (.ref 13), none, none] _ [.ref 0] rfl ?_
      refine ar_get M_B_runExchange rfl rfl hC.1 rfl ?_
      refine ar_get M_B_runExchange rfl rfl hP2.2.1 rfl ?_
      refine ar_go M_B_runExchange 1 _ 119 _ [some (.ref 0), some (.ref (40 + 4 * a)), some (.ref (40 + 4 * b)), some (.int (nI m)), some (.ref 11), some (.ref 13), none, none] _ [.ref 11, .int (nI ((zr (B a) u2 U3).length))] rfl ?_
      refine ar_get M_B_runExchange rfl rfl hU2.2.1 rfl ?_
      refine ar_icmp M_B_runExchange rfl rfl (fun hc3 => ?_) (fun hc3 => ?_)
      · have hc3 := c2_ne_t (a := ((zr (B a) u2 U3).length)) (b := u2) (by omega) (by omega) hc3
        have hck : ckB m (B a) (B b) u2 U3 l2 W3 = false := by unfold ckB; rw [decide_eq_false hc3, Bool.false_and, Bool.and_false]
        refine ar_go M_B_runExchange 3 _ 134 _ [some (.ref 0), some (.ref (40 + 4 * a)), some (.ref (40 + 4 * b)), some (.int (nI m)), some (.ref 11), some (.ref 13), some (.int (nI 0)), none] _ [.int (nI 0)] rfl ?_
        refine ar_if M_B_runExchange rfl rfl (fun _ => ?_) (fun z => absurd z (by decide))
        refine ar_go M_B_runExchange 1 _ 152 _ [some (.ref 0), some (.ref (40 + 4 * a)), some (.ref (40 + 4 * b)), some (.int (nI m)), some (.ref 11), some (.ref 13), some (.int (nI 0)), none] _ [.int (-4)] rfl ?_
        exact ar_R M_B_runExchange rfl rfl rfl rfl (⟨by simp only [exF, hO, hck] <;> rfl, by simp only [exF, hO, hck]; exact hC, hF5⟩)
      · have hc3 := c2_ne_f (a := ((zr (B a) u2 U3).length)) (b := u2) (by omega) (by omega) hc3
        refine ar_go M_B_runExchange 4 _ 134 _ [some (.ref 0), some (.ref (40 + 4 * a)), some (.ref (40 + 4 * b)), some (.int (nI m)), some (.ref 11), some (.ref 13), some (.int (nI 1)), none] _ [.int (nI 1)] rfl ?_
        refine ar_if M_B_runExchange rfl rfl (fun z => absurd z (by decide)) (fun _ => ?_)
        refine ar_go M_B_runExchange 1 _ 138 _ [some (.ref 0), some (.ref (40 + 4 * a)), some (.ref (40 + 4 * b)), some (.int (nI m)), some (.ref 11), some (.ref 13), some (.int (nI 1)), none] _ [.ref 0] rfl ?_
        refine ar_get M_B_runExchange rfl rfl hC.1 rfl ?_
        refine ar_go M_B_runExchange 3 _ 144 _ [some (.ref 0), some (.ref (40 + 4 * a)), some (.ref (40 + 4 * b)), some (.int (nI m)), some (.ref 11), some (.ref 13), some (.int (nI 1)), none] _ [.int (nI m + nI 2), .ref 10] rfl ?_
        refine ar_top (w := .int (nI (m + 2))) (congrArg Value.int (nI_add m 2)) ?_
        refine ar_CV M_B_runExchange rfl rfl (Or.inl rfl) rfl rfl (Nat.le_of_ble_eq_true rfl) hC.2.2.2.1.1 M_A_fitsSamples (Nat.le_of_ble_eq_true rfl) (c_A_fitsSamples X (d + 1) _ hC.2.2.2.1.1 hU2 hW2 h38 h39 hSA hSB (by omega)) (fun r1 h1 hq => ?_)
        obtain ⟨rfl, rfl⟩ := hq
        refine ⟨rfl, ?_⟩
        rw [ftA_congr eU eW eSA eSB (m + 2) 0 (by omega)]
        show ar Pg _ _ _ 147 [some (.ref 0), some (.ref (40 + 4 * a)), some (.ref (40 + 4 * b)), some (.int (nI m)), some (.ref 11), some (.ref 13), some (.int (nI 1)), none] [.int (bi (ftA U3 (u2 + 1) W3 (l2 + 1) (sq (B a)) (sq (B b)) (m + 2) 0))] _ _
        refine ar_if M_B_runExchange rfl rfl (fun hc4 => ?_) (fun hc4 => ?_)
        · have hc4 := bi_ne_t hc4
          have hck : ckB m (B a) (B b) u2 U3 l2 W3 = true := by unfold ckB; rw [hc4, decide_eq_true hc2, decide_eq_true hc3]; rfl
          refine ar_go M_B_runExchange 3 _ 156 _ [some (.ref 0), some (.ref (40 + 4 * a)), some (.ref (40 + 4 * b)), some (.int (nI m)), some (.ref 11), some (.ref 13), some (.int (nI 1)), none] _ [.ref (40 + 4 * b), .ref (40 + 4 * a), .ref 0] rfl ?_
          refine ar_CV M_B_runExchange rfl rfl (Or.inl rfl) rfl rfl (Nat.le_of_ble_eq_true rfl) hC.1 M_B_deliverParcels (Nat.le_of_ble_eq_true rfl) (c_B_deliverParcels X d _ hC ha hb hne hP1 hP2 (fil_V gBb.2.2 _ (Nat.le_refl _)) (fil_V gA.2.2 _ (Nat.le_refl _))) (fun r1 h8 hq => ?_)
          obtain ⟨rfl, hC, hf5⟩ := hq
          refine ⟨hf5.1, ?_⟩
          have hF6 : fr clL h h8 := hF5.tr hf5 (fun _ z => z) (fun _ z => z)
          generalize htk : dlR (B a) (B b) (zr (B b) l2 W3) (zr (B a) u2 U3) = tk0
          show ar Pg _ _ _ 159 [some (.ref 0), some (.ref (40 + 4 * a)), some (.ref (40 + 4 * b)), some (.int (nI m)), some (.ref 11), some (.ref 13), some (.int (nI 1)), none] [.int tk0] _ _
          have hk1 := fil_len (knB (zr (B b) l2 W3) (B a)) (zr (B b) l2 W3) (zr (B b) l2 W3).length
          have hk2 := fil_len (knB (zr (B a) u2 U3) (B b)) (zr (B a) u2 U3) (zr (B a) u2 U3).length
          rw [show fil (knB (zr (B b) l2 W3) (B a)) (zr (B b) l2 W3) (zr (B b) l2 W3).length = kn (zr (B b) l2 W3) (B a) from rfl] at hk1
          rw [show fil (knB (zr (B a) u2 U3) (B b)) (zr (B a) u2 U3) (zr (B a) u2 U3).length = kn (zr (B a) u2 U3) (B b) from rfl] at hk2
          by_cases hff : dlF (B a) (B b) (zr (B b) l2 W3) (zr (B a) u2 U3) = true
          · have hds : dlS (B a) (B b) (zr (B b) l2 W3) (zr (B a) u2 U3) = 0 := by rw [dlS, if_pos hff]
            have htk2 : tk0 = -3 := by rw [← htk, dlR, if_pos hff]
            refine ar_go M_B_runExchange 2 _ 163 _ [some (.ref 0), some (.ref (40 + 4 * a)), some (.ref (40 + 4 * b)), some (.int (nI m)), some (.ref 11), some (.ref 13), some (.int (nI 1)), some (.int tk0)] _ [.int tk0] rfl ?_
            refine ar_if M_B_runExchange rfl rfl (fun _ => ?_) (fun z => absurd z (by rw [htk2]; decide))
            refine ar_go M_B_runExchange 1 _ 182 _ [some (.ref 0), some (.ref (40 + 4 * a)), some (.ref (40 + 4 * b)), some (.int (nI m)), some (.ref 11), some (.ref 13), some (.int (nI 1)), some (.int tk0)] _ [.int tk0] rfl ?_
            exact ar_R M_B_runExchange rfl rfl rfl rfl (⟨by simp only [exF, hO, hck, if_true, htk], by simp only [exF, hO, hck, if_true]; rw [hds, i64z]; exact hC, hF6⟩)
          · generalize htt : (kn (zr (B b) l2 W3) (B a)).length + (kn (zr (B a) u2 U3) (B b)).length = tt
            have hds : dlS (B a) (B b) (zr (B b) l2 W3) (zr (B a) u2 U3) = lN (2 * tt) := by rw [dlS, if_neg hff, htt]
            have htk2 : nI tt = tk0 := by rw [← htk, dlR, if_neg hff, htt]
            subst htk2
            refine ar_go M_B_runExchange 2 _ 163 _ [some (.ref 0), some (.ref (40 + 4 * a)), some (.ref (40 + 4 * b)), some (.int (nI m)), some (.ref 11), some (.ref 13), some (.int (nI 1)), some (.int (nI tt))] _ [.int (nI tt)] rfl ?_
            refine ar_if M_B_runExchange rfl rfl (fun hc5 => ?_) (fun hc5 => ?_)
            · have hc5 := c2_le_t (a := tt) (b := 0) (by omega) (by omega) hc5
              have ht0 : tt = 0 := by omega
              refine ar_go M_B_runExchange 1 _ 182 _ [some (.ref 0), some (.ref (40 + 4 * a)), some (.ref (40 + 4 * b)), some (.int (nI m)), some (.ref 11), some (.ref 13), some (.int (nI 1)), some (.int (nI tt))] _ [.int (nI tt)] rfl ?_
              exact ar_R M_B_runExchange rfl rfl rfl rfl (⟨by simp only [exF, hO, hck, if_true, htk], by simp only [exF, hO, hck, if_true]; rw [hds, ht0, show lN (2 * 0) = 0 from rfl, i64z]; exact hC, hF6⟩)
            · have hc5 := c2_le_f (a := tt) (b := 0) (by omega) (by omega) hc5
              have h0 : h8[0]? = some (.inr (0, [.ref 1, .ref 2, .ref 6, .ref 10, .long (s + lN (m + 3) + lN (u2 + l2))])) := hC.1
              refine ar_go M_B_runExchange 2 _ 168 _ [some (.ref 0), some (.ref (40 + 4 * a)), some (.ref (40 + 4 * b)), some (.int (nI m)), some (.ref 11), some (.ref 13), some (.int (nI 1)), some (.int (nI tt))] _ [.ref 0, .ref 0] rfl ?_
              refine ar_get M_B_runExchange rfl rfl h0 rfl ?_
              refine ar_go M_B_runExchange 3 _ 175 _ [some (.ref 0), some (.ref (40 + 4 * a)), some (.ref (40 + 4 * b)), some (.int (nI m)), some (.ref 11), some (.ref 13), some (.int (nI 1)), some (.int (nI tt))] _ [.int (nI 2 * nI tt), .long (s + lN (m + 3) + lN (u2 + l2)), .ref 0] rfl ?_
              refine ar_top (w := .int (nI (2 * tt))) (congrArg Value.int (pk_mul 2 tt)) ?_
              refine ar_go M_B_runExchange 1 _ 176 _ [some (.ref 0), some (.ref (40 + 4 * a)), some (.ref (40 + 4 * b)), some (.int (nI m)), some (.ref 11), some (.ref 13), some (.int (nI 1)), some (.int (nI tt))] _ [.long ((nI (2 * tt)).toInt64), .long (s + lN (m + 3) + lN (u2 + l2)), .ref 0] rfl ?_
              refine ar_top (w := .long (lN (2 * tt))) (congrArg Value.long (nI_l (by omega))) ?_
              refine ar_go M_B_runExchange 1 _ 177 _ [some (.ref 0), some (.ref (40 + 4 * a)), some (.ref (40 + 4 * b)), some (.int (nI m)), some (.ref 11), some (.ref 13), some (.int (nI 1)), some (.int (nI tt))] _ [.long ((s + lN (m + 3) + lN (u2 + l2)) + lN (2 * tt)), .ref 0] rfl ?_
              refine ar_put M_B_runExchange rfl rfl h0 (Nat.le_of_ble_eq_true rfl) rfl (Nat.le_of_ble_eq_true rfl) (fun h9 hf he => ?_)
              have h0 : h9[0]? = some (.inr (0, [.ref 1, .ref 2, .ref 6, .ref 10, .long ((s + lN (m + 3) + lN (u2 + l2)) + lN (2 * tt))])) := he
              have hC := hC.snt hf h0
              refine ar_go M_B_runExchange 1 _ 182 _ [some (.ref 0), some (.ref (40 + 4 * a)), some (.ref (40 + 4 * b)), some (.int (nI m)), some (.ref 11), some (.ref 13), some (.int (nI 1)), some (.int (nI tt))] _ [.int (nI tt)] rfl ?_
              exact ar_R M_B_runExchange rfl rfl rfl rfl (⟨by simp only [exF, hO, hck, if_true, htk], by simp only [exF, hO, hck, if_true]; rw [hds]; exact hC, hF6.tr hf (fun _ z => z) (by decide)⟩)
        · have hc4 := bi_ne_f hc4
          have hck : ckB m (B a) (B b) u2 U3 l2 W3 = false := by unfold ckB; rw [hc4, Bool.and_false, Bool.and_false]
          refine ar_go M_B_runExchange 1 _ 152 _ [some (.ref 0), some (.ref (40 + 4 * a)), some (.ref (40 + 4 * b)), some (.int (nI m)), some (.ref 11), some (.ref 13), some (.int (nI 1)), none] _ [.int (-4)] rfl ?_
          exact ar_R M_B_runExchange rfl rfl rfl rfl (⟨by simp only [exF, hO, hck] <;> rfl, by simp only [exF, hO, hck]; exact hC, hF5⟩)
  · have hc := bi_ne_f hc
    obtain ⟨hn, hC⟩ := hno hc
    have hOn := ho1 hn
    refine ar_go M_B_runExchange 1 _ 28 _ [some (.ref 0), some (.ref (40 + 4 * a)), some (.ref (40 + 4 * b)), some (.int (nI m)), none, none, none, none] _ [.int (-4)] rfl ?_
    exact ar_R M_B_runExchange rfl rfl rfl rfl (⟨by simp only [exF, hOn] <;> rfl, by simp only [exF, hOn]; exact hC, hF1⟩)
