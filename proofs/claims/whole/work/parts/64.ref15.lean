/-! The reference: divide -/
def rdv (B : Nat → Nat) (q : Nat) : Nat → (Nat → Nat) × (Nat → Nat) → (Nat → Nat) × (Nat → Nat)
  | 0, S => S
  | n + 1, S => rdv B q n (di1 S.1 (S.1 (n + q)) n B (q + 1), updN S.2 n (S.1 (n + q)))
theorem di1_ge (A : Nat → Nat) (mu s : Nat) (B : Nat → Nat) : ∀ i j, s + i ≤ j → di1 A mu s B i j = A j
  | 0, _, _ => rfl
  | i + 1, j, h => by
    rw [di1]
    unfold updN
    rw [if_neg (by omega)]
    exact di1_ge A mu s B i j (by omega)
theorem c_M_di_in (X : am_X) (d : Nat) (h : am_H) {s : Int64} {ud ld pr uD lD tn : Int32} {A B : Nat → Nat} {D n q f : Nat} (hA : lt17 A) (hB : lt17 B) (hnq : n + q ≤ 16) (hf31 : f < 2147483647) (h69 : isLA h 69 17 B) {Q : Option Value → am_H → Prop} (K : ∀ h1 : am_H, isM0 h1 s ud ld pr uD lD (nI q) tn → isLA h1 68 17 (di1 A f n B (q + 1)) → fr [68] h h1 → ar Pg X (d + 1) n_M_divide 80 [some (.ref 56), some (.int (nI D)), some (.int (nI n)), some (.long (lN f)), none, some (.int (nI (q + 1)))] [] h1 Q) : ∀ (m i : Nat) (h1 : am_H), q + 1 - i < m → i ≤ q + 1 → isM0 h1 s ud ld pr uD lD (nI q) tn → isLA h1 68 17 (di1 A f n B i) → fr [68] h h1 → ar Pg X (d + 1) n_M_divide 33 [some (.ref 56), some (.int (nI D)), some (.int (nI n)), some (.long (lN f)), none, some (.int (nI i))] [] h1 Q := by
  intro m
  induction m with
  | zero => intro i h1 hi; omega
  | succ m ih =>
    intro i h1 hi hil h56 h68 hF
    have h69 : isLA h1 69 17 B := hF.at h69 (by simp)
    have h560 := h56
    unfold isM0 at h56
    unfold isLA at h68 h69
    refine ar_go M_M_divide 2 _ 36 _ [some (.ref 56), some (.int (nI D)), some (.int (nI n)), some (.long (lN f)), none, some (.int (nI i))] _ [.ref 56, .int (nI i)] rfl ?_
    refine ar_get M_M_divide rfl rfl h56 rfl ?_
    refine ar_icmp M_M_divide rfl rfl (fun hc => ?_) (fun hc => ?_)
    · have hc := c2_gt_t (a := i) (b := q) (by omega) (by omega) hc
      have hi2 : i = q + 1 := by omega
      rw [hi2] at h68 ⊢
      exact K h1 h560 h68 hF
    · have hc := c2_gt_f (a := i) (b := q) (by omega) (by omega) hc
      have hbi := hB i (by omega)
      have hai := di1_17 hA f n B i (n + i) (by omega)
      refine ar_go M_M_divide 1 _ 43 _ [some (.ref 56), some (.int (nI D)), some (.int (nI n)), some (.long (lN f)), none, some (.int (nI i))] _ [.ref 56] rfl ?_
      refine ar_get M_M_divide rfl rfl h56 rfl ?_
      refine ar_go M_M_divide 3 _ 50 _ [some (.ref 56), some (.int (nI D)), some (.int (nI n)), some (.long (lN f)), none, some (.int (nI i))] _ [.int (nI n + nI i), .ref 68] rfl ?_
      refine ar_top (w := .int (nI (n + i))) (congrArg Value.int (nI_add n i)) ?_
      refine ar_go M_M_divide 1 _ 51 _ [some (.ref 56), some (.int (nI D)), some (.int (nI n)), some (.long (lN f)), none, some (.int (nI i))] _ [.ref 56, .int (nI (n + i)), .ref 68] rfl ?_
      refine ar_get M_M_divide rfl rfl h56 rfl ?_
      refine ar_go M_M_divide 3 _ 58 _ [some (.ref 56), some (.int (nI D)), some (.int (nI n)), some (.long (lN f)), none, some (.int (nI i))] _ [.int (nI n + nI i), .ref 68, .int (nI (n + i)), .ref 68] rfl ?_
      refine ar_top (w := .int (nI (n + i))) (congrArg Value.int (nI_add n i)) ?_
      refine ar_lald M_M_divide rfl h68 (vp_in_nI (by omega) (by decide)) ?_
      rw [nI_clamp (n := (n + i)) (by omega)]
      refine ar_go M_M_divide 2 _ 61 _ [some (.ref 56), some (.int (nI D)), some (.int (nI n)), some (.long (lN f)), none, some (.int (nI i))] _ [.ref 56, .long (lN f), .long (lN ((di1 A f n B i) (n + i))), .int (nI (n + i)), .ref 68] rfl ?_
      refine ar_get M_M_divide rfl rfl h56 rfl ?_
      refine ar_go M_M_divide 1 _ 66 _ [some (.ref 56), some (.int (nI D)), some (.int (nI n)), some (.long (lN f)), none, some (.int (nI i))] _ [.int (nI i), .ref 69, .long (lN f), .long (lN ((di1 A f n B i) (n + i))), .int (nI (n + i)), .ref 68] rfl ?_
      refine ar_lald M_M_divide rfl h69 (vp_in_nI (by omega) (by decide)) ?_
      rw [nI_clamp (n := i) (by omega)]
      refine ar_CS M_M_divide rfl rfl (Nat.le_of_ble_eq_true rfl) rfl rfl (Nat.le_of_ble_eq_true rfl) M_M_mul (Nat.le_of_ble_eq_true rfl) (c_M_mul X d _ (by omega) (by omega)) (fun r1 h1 hq => ?_)
      obtain ⟨rfl, rfl⟩ := hq
      refine ⟨rfl, ?_⟩
      have hmm : f * B i % 2147483647 < 2147483647 := Nat.mod_lt _ (by decide)
      show ar Pg _ _ _ 70 [some (.ref 56), some (.int (nI D)), some (.int (nI n)), some (.long (lN f)), none, some (.int (nI i))] [.long (lN (f * B i % 2147483647)), .long (lN ((di1 A f n B i) (n + i))), .int (nI (n + i)), .ref 68] _ _
      refine ar_CS M_M_divide rfl rfl (Nat.le_of_ble_eq_true rfl) rfl rfl (Nat.le_of_ble_eq_true rfl) M_M_minus (Nat.le_of_ble_eq_true rfl) (c_M_minus X d _ (by omega) hmm) (fun r1 h1 hq => ?_)
      obtain ⟨rfl, rfl⟩ := hq
      refine ⟨rfl, ?_⟩
      show ar Pg _ _ _ 73 [some (.ref 56), some (.int (nI D)), some (.int (nI n)), some (.long (lN f)), none, some (.int (nI i))] [.long (lN ((di1 A f n B i (n + i) + 2147483647 - f * B i % 2147483647) % 2147483647)), .int (nI (n + i)), .ref 68] _ _
      refine ar_last M_M_divide rfl h68 (vp_in_nI (by omega) (by decide)) (fun h2 hf he => ?_)
      rw [nI_clamp (n := (n + i)) (by omega)] at he
      rw [updL_lN] at he
      have h56 := hf.at h56 (by simp only [List.mem_cons, List.not_mem_nil, or_false]; omega)
      have h69 := hf.at h69 (by simp only [List.mem_cons, List.not_mem_nil, or_false]; omega)
      have h68 : h2[68]? = some (.inl (1, 17, .inr (.inl (fun z9 => lN ((updN (di1 A f n B i) (n + i) ((di1 A f n B i (n + i) + 2147483647 - f * B i % 2147483647) % 2147483647)) z9))))) := he
      refine ar_go M_M_divide 1 _ 77 _ [some (.ref 56), some (.int (nI D)), some (.int (nI n)), some (.long (lN f)), none, some (.int (nI i + Int32.ofInt 1))] _ [] rfl ?_
      rw [show nI i + Int32.ofInt 1 = nI (i + 1) from nI_add i 1]
      refine ar_go M_M_divide 1 _ 33 _ [some (.ref 56), some (.int (nI D)), some (.int (nI n)), some (.long (lN f)), none, some (.int (nI (i + 1)))] _ [] rfl ?_
      exact ih (i + 1) h2 (by omega) (by omega) h56 h68 (hF.tr hf (fun _ z => z) (fun _ z => z))
theorem c_M_di_loop (X : am_X) (d : Nat) (h : am_H) {s : Int64} {ud ld pr uD lD tn : Int32} {B : Nat → Nat} {D q : Nat} (hB : lt17 B) (h69 : isLA h 69 17 B) : ∀ (n : Nat) (S : (Nat → Nat) × (Nat → Nat)) (h1 : am_H) (x3 x5 : Option Value), n + q ≤ 17 → lt17 S.1 → lt17 S.2 → isM0 h1 s ud ld pr uD lD (nI q) tn → isLA h1 68 17 S.1 → isLA h1 70 17 S.2 → fr [68, 70] h h1 → ar Pg X (d + 1) n_M_divide 7 [some (.ref 56), some (.int (nI D)), some (.int (dI n)), x3, none, x5] [] h1 (fun rr h' => rr = none ∧ fr [68, 70] h h' ∧ isLA h' 68 17 (rdv B q n S).1 ∧ isLA h' 70 17 (rdv B q n S).2) := by
  intro n
  induction n with
  | zero =>
    intro S h1 x3 x5 hn hA hT h56 h68 h70 hF
    refine ar_go M_M_divide 1 _ 8 _ [some (.ref 56), some (.int (nI D)), some (.int (dI 0)), x3, none, x5] _ [.int (-1)] rfl ?_
    refine ar_if M_M_divide rfl rfl (fun _ => ?_) (fun z => absurd z (by decide))
    exact ar_R M_M_divide rfl rfl rfl rfl ⟨rfl, hF, h68, h70⟩
  | succ n ih =>
    intro S h1 x3 x5 hn hA hT h56 h68 h70 hF
    have h69 : isLA h1 69 17 B := hF.at h69 (by simp)
    show ar Pg X (d + 1) n_M_divide 7 [some (.ref 56), some (.int (nI D)), some (.int (nI n)), x3, none, x5] [] h1 _
    unfold isM0 at h56
    unfold isLA at h68 h69 h70
    refine ar_go M_M_divide 1 _ 8 _ [some (.ref 56), some (.int (nI D)), some (.int (nI n)), x3, none, x5] _ [.int (nI n)] rfl ?_
    refine ar_if M_M_divide rfl rfl (fun hc => absurd (of_decide_eq_true hc) (nI_pos (by omega))) (fun _ => ?_)
    refine ar_go M_M_divide 1 _ 12 _ [some (.ref 56), some (.int (nI D)), some (.int (nI n)), x3, none, x5] _ [.ref 56] rfl ?_
    refine ar_get M_M_divide rfl rfl h56 rfl ?_
    refine ar_go M_M_divide 2 _ 17 _ [some (.ref 56), some (.int (nI D)), some (.int (nI n)), x3, none, x5] _ [.ref 56, .int (nI n), .ref 68] rfl ?_
    refine ar_get M_M_divide rfl rfl h56 rfl ?_
    refine ar_go M_M_divide 1 _ 21 _ [some (.ref 56), some (.int (nI D)), some (.int (nI n)), x3, none, x5] _ [.int (nI n + nI q), .ref 68] rfl ?_
    refine ar_top (w := .int (nI (n + q))) (congrArg Value.int (nI_add n q)) ?_
    refine ar_lald M_M_divide rfl h68 (vp_in_nI (by omega) (by decide)) ?_
    rw [nI_clamp (n := (n + q)) (by omega)]
    refine ar_go M_M_divide 2 _ 24 _ [some (.ref 56), some (.int (nI D)), some (.int (nI n)), some (.long (lN (S.1 (n + q)))), none, x5] _ [.ref 56] rfl ?_
    refine ar_get M_M_divide rfl rfl h56 rfl ?_
    refine ar_go M_M_divide 2 _ 29 _ [some (.ref 56), some (.int (nI D)), some (.int (nI n)), some (.long (lN (S.1 (n + q)))), none, x5] _ [.long (lN (S.1 (n + q))), .int (nI n), .ref 70] rfl ?_
    refine ar_last M_M_divide rfl h70 (vp_in_nI (by omega) (by decide)) (fun h2 hf he => ?_)
    rw [nI_clamp (n := n) (by omega)] at he
    rw [updL_lN] at he
    have h56 := hf.at h56 (by simp only [List.mem_cons, List.not_mem_nil, or_false]; omega)
    have h68 := hf.at h68 (by simp only [List.mem_cons, List.not_mem_nil, or_false]; omega)
    have h69 := hf.at h69 (by simp only [List.mem_cons, List.not_mem_nil, or_false]; omega)
    have h70 : h2[70]? = some (.inl (1, 17, .inr (.inl (fun z9 => lN ((updN S.2 n (S.1 (n + q))) z9))))) := he
    have k1 := hf
    refine ar_go M_M_divide 2 _ 33 _ [some (.ref 56), some (.int (nI D)), some (.int (nI n)), some (.long (lN (S.1 (n + q)))), none, some (.int (nI 0))] _ [] rfl ?_
    refine c_M_di_in X d h2 (A := S.1) (B := B) hA hB (by omega) (hA (n + q) (by omega)) h69 ?_ (q + 1 + 1) 0 h2 (by omega) (by omega) h56 h68 (fr.rf _ _)
    intro h3 h563 h683 hF3
    refine ar_go M_M_divide 1 _ 83 _ [some (.ref 56), some (.int (nI D)), some (.int (nI n + Int32.ofInt (-1))), some (.long (lN (S.1 (n + q)))), none, some (.int (nI (q + 1)))] _ [] rfl ?_
    rw [show nI n + Int32.ofInt (-1) = dI n from dI_pred n]
    refine ar_go M_M_divide 1 _ 7 _ [some (.ref 56), some (.int (nI D)), some (.int (dI n)), some (.long (lN (S.1 (n + q)))), none, some (.int (nI (q + 1)))] _ [] rfl ?_
    exact ih (di1 S.1 (S.1 (n + q)) n B (q + 1), updN S.2 n (S.1 (n + q))) h3 _ _ (by omega) (di1_17 hA _ _ _ _) (hT.up _ (hA _ (by omega))) h563 h683 (hF3.at h70 (by simp)) (hF.tr (k1.tr hF3 (l := [68, 70]) (by simp) (by simp)) (fun _ z => z) (fun _ z => z))
theorem c_M_divide (X : am_X) (d : Nat) (h : am_H) {s : Int64} {ud ld pr uD lD tn : Int32} {A B T : Nat → Nat} {D q : Nat} (hA : lt17 A) (hB : lt17 B) (hT : lt17 T) (hqD : q ≤ D) (hD : D ≤ 16) (h56 : isM0 h s ud ld pr uD lD (nI q) tn) (h68 : isLA h 68 17 A) (h69 : isLA h 69 17 B) (h70 : isLA h 70 17 T) : ar Pg X (d + 1) n_M_divide 0 [some (.ref 56), some (.int (nI D)), none, none, none, none] [] h (fun rr h' => rr = none ∧ fr [68, 70] h h' ∧ isLA h' 68 17 (rdv B q (D + 1 - q) (A, T)).1 ∧ isLA h' 70 17 (rdv B q (D + 1 - q) (A, T)).2) := by
  unfold isM0 at h56
  refine ar_go M_M_divide 2 _ 2 _ [some (.ref 56), some (.int (nI D)), none, none, none, none] _ [.ref 56, .int (nI D)] rfl ?_
  refine ar_get M_M_divide rfl rfl h56 rfl ?_
  refine ar_go M_M_divide 1 _ 6 _ [some (.ref 56), some (.int (nI D)), none, none, none, none] _ [.int (nI D - nI q)] rfl ?_
  refine ar_top (w := .int (nI (D - q))) (congrArg Value.int (pk_sub (by omega))) ?_
  refine ar_go M_M_divide 1 _ 7 _ [some (.ref 56), some (.int (nI D)), some (.int (nI (D - q))), none, none, none] _ [] rfl ?_
  rw [show nI (D - q) = dI (D + 1 - q) by rw [show D + 1 - q = D - q + 1 by omega]; rfl]
  exact c_M_di_loop X d h hB h69 (D + 1 - q) (A, T) h none none (by omega) hA hT h56 h68 h70 (fr.rf _ _)
