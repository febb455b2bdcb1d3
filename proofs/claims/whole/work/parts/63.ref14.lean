/-! The reference: left, makePlain -/
theorem c_M_lf_loop (X : am_X) (d : Nat) (h : am_H) {s : Int64} {ud ld pr uD lD nd tn : Int32} {A : Nat → Nat} (h56 : isM0 h s ud ld pr uD lD nd tn) (h68 : isLA h 68 17 A) (hl : lt17 A) : ∀ (k : Nat), k ≤ 17 → ar Pg X d n_M_left 3 [some (.ref 56), some (.int (dI k))] [] h (fun rr h' => rr = some (.int (dI (trm A k))) ∧ h' = h) := by
  unfold isM0 at h56
  unfold isLA at h68
  intro k
  induction k with
  | zero =>
    intro hk
    refine ar_go M_M_left 1 _ 4 _ [some (.ref 56), some (.int (dI 0))] _ [.int (-1)] rfl ?_
    refine ar_if M_M_left rfl rfl (fun _ => ?_) (fun z => absurd z (by decide))
    refine ar_go M_M_left 1 _ 25 _ [some (.ref 56), some (.int (dI 0))] _ [.int (-1)] rfl ?_
    exact ar_R M_M_left rfl rfl rfl rfl ⟨rfl, rfl⟩
  | succ k ih =>
    intro hk
    show ar Pg X d n_M_left 3 [some (.ref 56), some (.int (nI k))] [] h _
    refine ar_go M_M_left 1 _ 4 _ [some (.ref 56), some (.int (nI k))] _ [.int (nI k)] rfl ?_
    refine ar_if M_M_left rfl rfl (fun hc => absurd (of_decide_eq_true hc) (nI_pos (by omega))) (fun _ => ?_)
    have hak := hl k (by omega)
    refine ar_go M_M_left 1 _ 8 _ [some (.ref 56), some (.int (nI k))] _ [.ref 56] rfl ?_
    refine ar_get M_M_left rfl rfl h56 rfl ?_
    refine ar_go M_M_left 1 _ 12 _ [some (.ref 56), some (.int (nI k))] _ [.int (nI k), .ref 68] rfl ?_
    refine ar_lald M_M_left rfl h68 (vp_in_nI (by omega) (by decide)) ?_
    rw [nI_clamp (n := k) (by omega)]
    refine ar_go M_M_left 2 _ 15 _ [some (.ref 56), some (.int (nI k))] _ [.int (lg_cmp (lN (A k)) (lN 0))] rfl ?_
    refine ar_top (w := .int (if A k = 0 then 0 else 1)) (congrArg Value.int (lcmp0 hak)) ?_
    by_cases h0 : A k = 0
    · rw [if_pos h0]
      refine ar_if M_M_left rfl rfl (fun z => absurd z (by decide)) (fun _ => ?_)
      refine ar_go M_M_left 1 _ 21 _ [some (.ref 56), some (.int (nI k + Int32.ofInt (-1)))] _ [] rfl ?_
      rw [show nI k + Int32.ofInt (-1) = dI k from dI_pred k]
      refine ar_go M_M_left 1 _ 3 _ [some (.ref 56), some (.int (dI k))] _ [] rfl ?_
      rw [show trm A (k + 1) = trm A k by rw [trm, if_pos h0]]
      exact ih (by omega)
    · rw [if_neg h0]
      refine ar_if M_M_left rfl rfl (fun _ => ?_) (fun z => absurd z (by decide))
      refine ar_go M_M_left 1 _ 25 _ [some (.ref 56), some (.int (nI k))] _ [.int (nI k)] rfl ?_
      exact ar_R M_M_left rfl rfl rfl rfl (⟨by rw [trm, if_neg h0]; rfl, rfl⟩)
theorem c_M_left (X : am_X) (d : Nat) (h : am_H) {s : Int64} {ud ld pr uD lD nd tn : Int32} {A : Nat → Nat} (h56 : isM0 h s ud ld pr uD lD nd tn) (h68 : isLA h 68 17 A) (hl : lt17 A) : ar Pg X d n_M_left 0 [some (.ref 56), none] [] h (fun rr h' => rr = some (.int (dI (trm A 17))) ∧ h' = h) := by
  refine ar_go M_M_left 2 _ 3 _ [some (.ref 56), some (.int (nI 16))] _ [] rfl ?_
  exact c_M_lf_loop X d h h56 h68 hl 17 (Nat.le_refl _)
theorem ml_ge (A : Nat → Nat) (f : Nat) : ∀ i j, i ≤ j → ml A f i j = A j
  | 0, _, _ => rfl
  | i + 1, j, h => by
    rw [ml]
    unfold updN
    rw [if_neg (by omega)]
    exact ml_ge A f i j (by omega)
theorem ml_up2 (A : Nat → Nat) (f i : Nat) : updN (ml A f i) i (A i * f % 2147483647) = ml A f (i + 1) := by
  rw [ml, ml_ge A f i i (Nat.le_refl _)]
theorem c_M_mp_loop (X : am_X) (d : Nat) (h : am_H) {s : Int64} {ud ld pr uD lD tn : Int32} {A : Nat → Nat} {q f : Nat} (hl : lt17 A) (hq : q < 17) (hf31 : f < 2147483648) : ∀ (n i : Nat) (h1 : am_H), q + 1 - i < n → i ≤ q + 1 → isM0 h1 s ud ld pr uD lD (nI q) tn → isLA h1 69 17 (ml A f i) → fr [69] h h1 → ar Pg X (d + 1) n_M_makePlain 15 [some (.ref 56), some (.long (lN f)), none, some (.int (nI i))] [] h1 (fun rr h' => rr = none ∧ fr [69] h h' ∧ isLA h' 69 17 (ml A f (q + 1))) := by
  intro n
  induction n with
  | zero => intro i h1 hi; omega
  | succ n ih =>
    intro i h1 hi hil h56 h69 hF
    unfold isM0 at h56
    unfold isLA at h69
    refine ar_go M_M_makePlain 2 _ 17 _ [some (.ref 56), some (.long (lN f)), none, some (.int (nI i))] _ [.ref 56, .int (nI i)] rfl ?_
    refine ar_get M_M_makePlain rfl rfl h56 rfl ?_
    refine ar_icmp M_M_makePlain rfl rfl (fun hc => ?_) (fun hc => ?_)
    · have hc := c2_gt_t (a := i) (b := q) (by omega) (by omega) hc
      have hi2 : i = q + 1 := by omega
      exact ar_R M_M_makePlain rfl rfl rfl rfl (⟨rfl, hF, by rw [← hi2]; exact h69⟩)
    · have hc := c2_gt_f (a := i) (b := q) (by omega) (by omega) hc
      have hai := hl i (by omega)
      refine ar_go M_M_makePlain 1 _ 24 _ [some (.ref 56), some (.long (lN f)), none, some (.int (nI i))] _ [.ref 56] rfl ?_
      refine ar_get M_M_makePlain rfl rfl h56 rfl ?_
      refine ar_go M_M_makePlain 2 _ 29 _ [some (.ref 56), some (.long (lN f)), none, some (.int (nI i))] _ [.ref 56, .int (nI i), .ref 69] rfl ?_
      refine ar_get M_M_makePlain rfl rfl h56 rfl ?_
      refine ar_go M_M_makePlain 1 _ 33 _ [some (.ref 56), some (.long (lN f)), none, some (.int (nI i))] _ [.int (nI i), .ref 69, .int (nI i), .ref 69] rfl ?_
      refine ar_lald M_M_makePlain rfl h69 (vp_in_nI (by omega) (by decide)) ?_
      rw [nI_clamp (n := i) (by omega)]
      refine ar_top (w := .long (lN (A i))) (congrArg Value.long (congrArg lN (ml_ge A f i i (Nat.le_refl _)))) ?_
      refine ar_go M_M_makePlain 1 _ 35 _ [some (.ref 56), some (.long (lN f)), none, some (.int (nI i))] _ [.long (lN f), .long (lN (A i)), .int (nI i), .ref 69] rfl ?_
      refine ar_CS M_M_makePlain rfl rfl (Nat.le_of_ble_eq_true rfl) rfl rfl (Nat.le_of_ble_eq_true rfl) M_M_mul (Nat.le_of_ble_eq_true rfl) (c_M_mul X d _ (by omega) hf31) (fun r1 h1 hq => ?_)
      obtain ⟨rfl, rfl⟩ := hq
      refine ⟨rfl, ?_⟩
      show ar Pg _ _ _ 38 [some (.ref 56), some (.long (lN f)), none, some (.int (nI i))] [.long (lN (A i * f % 2147483647)), .int (nI i), .ref 69] _ _
      refine ar_last M_M_makePlain rfl h69 (vp_in_nI (by omega) (by decide)) (fun h2 hf he => ?_)
      rw [nI_clamp (n := i) (by omega)] at he
      rw [updL_lN] at he
      have h56 := hf.at h56 (by simp only [List.mem_cons, List.not_mem_nil, or_false]; omega)
      have h69 : h2[69]? = some (.inl (1, 17, .inr (.inl (fun z9 => lN ((updN (ml A f i) i (A i * f % 2147483647)) z9))))) := he
      rw [ml_up2] at h69
      refine ar_go M_M_makePlain 1 _ 42 _ [some (.ref 56), some (.long (lN f)), none, some (.int (nI i + Int32.ofInt 1))] _ [] rfl ?_
      rw [show nI i + Int32.ofInt 1 = nI (i + 1) from nI_add i 1]
      refine ar_go M_M_makePlain 1 _ 15 _ [some (.ref 56), some (.long (lN f)), none, some (.int (nI (i + 1)))] _ [] rfl ?_
      exact ih (i + 1) h2 (by omega) (by omega) h56 h69 (hF.tr hf (fun _ z => z) (fun _ z => z))
theorem c_M_makePlain (X : am_X) (d : Nat) (h : am_H) {s : Int64} {ud ld pr uD lD tn : Int32} {A : Nat → Nat} {q : Nat} (hl : lt17 A) (hq : q < 17) (h56 : isM0 h s ud ld pr uD lD (nI q) tn) (h69 : isLA h 69 17 A) : ar Pg X (d + 1 + 1) n_M_makePlain 0 [some (.ref 56), none, none, none] [] h (fun rr h' => rr = none ∧ fr [69] h h' ∧ isLA h' 69 17 (ml A (mf_iv (A q)) (q + 1))) := by
  unfold isM0 at h56
  unfold isLA at h69
  have haq := hl q hq
  have hil := mf_iv_lt (A q)
  refine ar_go M_M_makePlain 1 _ 1 _ [some (.ref 56), none, none, none] _ [.ref 56] rfl ?_
  refine ar_get M_M_makePlain rfl rfl h56 rfl ?_
  refine ar_go M_M_makePlain 1 _ 5 _ [some (.ref 56), none, none, none] _ [.ref 56, .ref 69] rfl ?_
  refine ar_get M_M_makePlain rfl rfl h56 rfl ?_
  refine ar_lald M_M_makePlain rfl h69 (vp_in_nI (by omega) (by decide)) ?_
  rw [nI_clamp (n := q) (by omega)]
  refine ar_CS M_M_makePlain rfl rfl (Nat.le_of_ble_eq_true rfl) rfl rfl (Nat.le_of_ble_eq_true rfl) M_M_inverse (Nat.le_of_ble_eq_true rfl) (c_M_inverse X d _ (x := A q) (by omega)) (fun r1 h1 hq => ?_)
  obtain ⟨rfl, rfl⟩ := hq
  refine ⟨rfl, ?_⟩
  show ar Pg _ _ _ 12 [some (.ref 56), none, none, none] [.long (lN (mf_iv (A q)))] _ _
  refine ar_go M_M_makePlain 3 _ 15 _ [some (.ref 56), some (.long (lN (mf_iv (A q)))), none, some (.int (nI 0))] _ [] rfl ?_
  exact c_M_mp_loop X (d + 1) _ hl hq (by omega) (q + 1 + 1) 0 _ (by omega) (by omega) h56 h69 (fr.rf _ _)
