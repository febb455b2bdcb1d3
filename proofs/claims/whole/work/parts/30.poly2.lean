/-! Polynomial: scaling, division -/
theorem lt17.up {A : Nat → Nat} (h : lt17 A) (j : Nat) {v : Nat} (hv : v < 2147483647) : lt17 (updN A j v) := by
  intro i hi
  unfold updN
  split
  · exact hv
  · exact h i hi
def ml (A : Nat → Nat) (s : Nat) : Nat → Nat → Nat
  | 0 => A
  | i + 1 => updN (ml A s i) i (ml A s i i * s % 2147483647)
theorem ml_17 {A : Nat → Nat} (h : lt17 A) (s : Nat) : ∀ i, lt17 (ml A s i)
  | 0 => h
  | i + 1 => (ml_17 h s i).up i (Nat.mod_lt _ (by decide))
def di1 (A : Nat → Nat) (mu s : Nat) (B : Nat → Nat) : Nat → Nat → Nat
  | 0 => A
  | i + 1 => updN (di1 A mu s B i) (s + i) ((di1 A mu s B i (s + i) + 2147483647 - mu * B i % 2147483647) % 2147483647)
theorem di1_17 {A : Nat → Nat} (h : lt17 A) (mu s : Nat) (B : Nat → Nat) : ∀ i, lt17 (di1 A mu s B i)
  | 0 => h
  | i + 1 => (di1_17 h mu s B i).up _ (Nat.mod_lt _ (by decide))
/-- division by a divisor of degree q, n shifts, in place -/
def dv (B : Nat → Nat) (q : Nat) : Nat → (Nat → Nat) → Nat → Nat
  | 0, A => A
  | n + 1, A => dv B q n (di1 A (A (n + q)) n B q)
theorem dv_17 {B : Nat → Nat} {q : Nat} : ∀ (n : Nat) {A : Nat → Nat}, lt17 A → lt17 (dv B q n A)
  | 0, _, h => h
  | n + 1, _, h => dv_17 n (di1_17 h _ _ _ _)
def shd (A : Nat → Nat) (q : Nat) : Nat → Nat → Nat
  | 0 => A
  | i + 1 => updN (shd A q i) i (shd A q i (i + q))
theorem shd_17 {A : Nat → Nat} (h : lt17 A) (q : Nat) : ∀ i, i + q ≤ 17 → lt17 (shd A q i)
  | 0, _ => h
  | i + 1, hi => (shd_17 h q i (by omega)).up _ (shd_17 h q i (by omega) _ (by omega))
def trm (A : Nat → Nat) : Nat → Nat
  | 0 => 0
  | k + 1 => if A k = 0 then trm A k else k + 1
theorem trm_le (A : Nat → Nat) : ∀ k, trm A k ≤ k
  | 0 => Nat.le_refl _
  | k + 1 => by
    have := trm_le A k
    rw [trm]
    split <;> omega
theorem dI_sub {k q : Nat} (h : q ≤ k) : dI (k + 1) - nI q = nI (k - q) := pk_sub h
theorem dI_neg : ∀ k, k < 18 → ∀ q, q < 18 → k ≤ q → am_c2 .lt (dI k - nI q) 0 = true := by decide +kernel
theorem dI_min : ∀ k, k < 18 → ∀ q, q < 18 → (if dI q < dI k then dI q else dI k) = dI (min k q) := by decide +kernel
theorem dI_1 (q : Nat) : nI q - nI 1 = dI q := by
  cases q with
  | zero => decide
  | succ q => exact nI_pred q
theorem lcmp0 {v : Nat} (h : v < 2147483647) : lg_cmp (lN v) (lN 0) = if v = 0 then 0 else 1 := by
  unfold lg_cmp
  by_cases h0 : v = 0
  · subst h0; decide
  · have h1 : lN 0 < lN v := (lN_lt (by decide) (by omega)).mpr (by omega)
    rw [if_pos h1, if_neg h0]
theorem c_Y_mh_loop (X : am_X) (d : Nat) (h : am_H) {y k s : Nat} {A : Nat → Nat} (hys : y < 1000) (hk : k + 1 ≤ 17) (hA : lt17 A) (hs : s < 2147483648) : ∀ (n i : Nat) (h1 : am_H), k + 1 - i < n → i ≤ k + 1 → isYO h1 y (k + 1) → isLA h1 (y + 1) 17 (ml A s i) → fr [y + 1] h h1 → ar Pg X (d + 1) n_Y_makeHighestOne 23 [some (.ref y), some (.long (lN s)), none, some (.int (nI i))] [] h1 (fun rr h' => rr = none ∧ fr [y + 1] h h' ∧ isP h' y (k + 1) (ml A s (k + 1))) := by
  intro n
  induction n with
  | zero => intro i h1 hn; omega
  | succ n ih =>
    intro i h1 hn hik hy ha hF
    unfold isYO at hy
    unfold isLA at ha
    have hy : h1[y]? = some (.inr (2, [.ref (y + 1), .int (nI k)])) := hy
    refine ar_go M_Y_makeHighestOne 2 _ 25 _ [some (.ref y), some (.long (lN s)), none, some (.int (nI i))] _ [.ref y, .int (nI i)] rfl ?_
    refine ar_get M_Y_makeHighestOne rfl rfl hy rfl ?_
    refine ar_icmp M_Y_makeHighestOne rfl rfl (fun hc => ?_) (fun hc => ?_)
    · have hc := c2_gt_t (a := i) (b := k) (by omega) (by omega) hc
      have hi2 : i = k + 1 := by omega
      rw [hi2] at ha
      exact ar_R M_Y_makeHighestOne rfl rfl rfl rfl (⟨rfl, hF, hk, hy, ha, ml_17 hA s _⟩)
    · have hc := c2_gt_f (a := i) (b := k) (by omega) (by omega) hc
      have hai := ml_17 hA s i i (by omega)
      refine ar_go M_Y_makeHighestOne 1 _ 32 _ [some (.ref y), some (.long (lN s)), none, some (.int (nI i))] _ [.ref y] rfl ?_
      refine ar_get M_Y_makeHighestOne rfl rfl hy rfl ?_
      refine ar_go M_Y_makeHighestOne 2 _ 37 _ [some (.ref y), some (.long (lN s)), none, some (.int (nI i))] _ [.ref y, .int (nI i), .ref (y + 1)] rfl ?_
      refine ar_get M_Y_makeHighestOne rfl rfl hy rfl ?_
      refine ar_go M_Y_makeHighestOne 1 _ 41 _ [some (.ref y), some (.long (lN s)), none, some (.int (nI i))] _ [.int (nI i), .ref (y + 1), .int (nI i), .ref (y + 1)] rfl ?_
      refine ar_lald M_Y_makeHighestOne rfl ha (vp_in_nI (by omega) (by decide)) ?_
      rw [nI_clamp (n := i) (by omega)]
      refine ar_go M_Y_makeHighestOne 1 _ 43 _ [some (.ref y), some (.long (lN s)), none, some (.int (nI i))] _ [.long (lN s), .long (lN ((ml A s i) i)), .int (nI i), .ref (y + 1)] rfl ?_
      refine ar_CS M_Y_makeHighestOne rfl rfl (Nat.le_of_ble_eq_true rfl) rfl rfl (Nat.le_of_ble_eq_true rfl) M_F_times (Nat.le_of_ble_eq_true rfl) (c_F_times X d _ (by omega) hs) (fun r1 h1 hq => ?_)
      obtain ⟨rfl, rfl⟩ := hq
      refine ⟨rfl, ?_⟩
      show ar Pg _ _ _ 46 [some (.ref y), some (.long (lN s)), none, some (.int (nI i))] [.long (lN (ml A s i i * s % 2147483647)), .int (nI i), .ref (y + 1)] _ _
      refine ar_last M_Y_makeHighestOne rfl ha (vp_in_nI (by omega) (by decide)) (fun h2 hf he => ?_)
      rw [nI_clamp (n := i) (by omega)] at he
      rw [updL_lN] at he
      have hy := hf.at hy (by simp only [List.mem_cons, List.not_mem_nil, or_false]; omega)
      have ha : h2[(y + 1)]? = some (.inl (1, 17, .inr (.inl (fun z9 => lN ((updN (ml A s i) i (ml A s i i * s % 2147483647)) z9))))) := he
      refine ar_go M_Y_makeHighestOne 1 _ 50 _ [some (.ref y), some (.long (lN s)), none, some (.int (nI i + Int32.ofInt 1))] _ [] rfl ?_
      rw [show nI i + Int32.ofInt 1 = nI (i + 1) from nI_add i 1]
      refine ar_go M_Y_makeHighestOne 1 _ 23 _ [some (.ref y), some (.long (lN s)), none, some (.int (nI (i + 1)))] _ [] rfl ?_
      exact ih (i + 1) h2 (by omega) (by omega) hy ha (hF.tr hf (by simp) (by simp))
theorem c_Y_makeHighestOne (X : am_X) (d : Nat) (h : am_H) {y k : Nat} {A : Nat → Nat} (hP : isP h y (k + 1) A) (hys : y < 1000) : ar Pg X (d + 1) n_Y_makeHighestOne 0 [some (.ref y), none, none, none] [] h (fun rr h' => rr = none ∧ fr [y + 1] h h' ∧ isP h' y (k + 1) (ml A (mf_iv (A k)) (k + 1))) := by
  obtain ⟨hk, hy, ha, hA⟩ := hP
  unfold isYO at hy
  unfold isLA at ha
  have hy : h[y]? = some (.inr (2, [.ref (y + 1), .int (nI k)])) := hy
  refine ar_go M_Y_makeHighestOne 1 _ 1 _ [some (.ref y), none, none, none] _ [.ref y] rfl ?_
  refine ar_get M_Y_makeHighestOne rfl rfl hy rfl ?_
  refine ar_if M_Y_makeHighestOne rfl rfl (fun _ => ?_) (fun hc => absurd (nI_pos' (by omega)) (of_decide_eq_false hc))
  refine ar_go M_Y_makeHighestOne 1 _ 9 _ [some (.ref y), none, none, none] _ [.ref y] rfl ?_
  refine ar_get M_Y_makeHighestOne rfl rfl hy rfl ?_
  refine ar_go M_Y_makeHighestOne 1 _ 13 _ [some (.ref y), none, none, none] _ [.ref y, .ref (y + 1)] rfl ?_
  refine ar_get M_Y_makeHighestOne rfl rfl hy rfl ?_
  refine ar_lald M_Y_makeHighestOne rfl ha (vp_in_nI (by omega) (by decide)) ?_
  rw [nI_clamp (n := k) (by omega)]
  have hak := hA k (by omega)
  refine ar_CS M_Y_makeHighestOne rfl rfl (Nat.le_of_ble_eq_true rfl) rfl rfl (Nat.le_of_ble_eq_true rfl) M_F_inverse (Nat.le_of_ble_eq_true rfl) (c_F_inverse X d _ (by omega)) (fun r1 h1 hq => ?_)
  obtain ⟨rfl, rfl⟩ := hq
  refine ⟨rfl, ?_⟩
  show ar Pg _ _ _ 20 [some (.ref y), none, none, none] [.long (lN (mf_iv (A k)))] _ _
  refine ar_go M_Y_makeHighestOne 3 _ 23 _ [some (.ref y), some (.long (lN (mf_iv (A k)))), none, some (.int (nI 0))] _ [] rfl ?_
  exact c_Y_mh_loop X d _ hys hk hA (Nat.lt_trans (mf_iv_lt _) (by decide)) (k + 2) 0 _ (by omega) (by omega) hy ha (fr.rf _ _)
theorem c_Y_d1_loop (X : am_X) (d : Nat) (h : am_H) {y z k q s mu : Nat} {A B : Nat → Nat} {Q : Option Value → am_H → Prop} (hys : y < 1000) (hzs : z < 1000) (hap : z + 2 ≤ y ∨ y + 2 ≤ z) (hsq : s + q < 17) (hA : lt17 A) (hB : lt17 B) (hmu : mu < 2147483647)
    (K : ∀ (h1 : am_H) (x6 : Option Value), isYO h1 y k → isLA h1 (y + 1) 17 (di1 A mu s B q) → fr [y + 1] h h1 → ar Pg X (d + 1) n_Y_divideInPlace 80 [some (.ref y), some (.ref z), some (.int (nI s)), some (.long (lN mu)), none, some (.int (nI q)), x6, none] [] h1 Q) :
    ∀ (n i : Nat) (h1 : am_H) (x6 : Option Value), q - i < n → i ≤ q → isYO h1 y k → isLA h1 (y + 1) 17 (di1 A mu s B i) → isYO h1 z (q + 1) → isLA h1 (z + 1) 17 B → fr [y + 1] h h1 → ar Pg X (d + 1) n_Y_divideInPlace 29 [some (.ref y), some (.ref z), some (.int (nI s)), some (.long (lN mu)), none, some (.int (nI i)), x6, none] [] h1 Q := by
  intro n
  induction n with
  | zero => intro i h1 x6 hn; omega
  | succ n ih =>
    intro i h1 x6 hn hiq hy ha hy2 ha2 hF
    unfold isYO at hy hy2
    unfold isLA at ha ha2
    have hy2 : h1[z]? = some (.inr (2, [.ref (z + 1), .int (nI q)])) := hy2
    refine ar_go M_Y_divideInPlace 2 _ 32 _ [some (.ref y), some (.ref z), some (.int (nI s)), some (.long (lN mu)), none, some (.int (nI i)), x6, none] _ [.ref z, .int (nI i)] rfl ?_
    refine ar_get M_Y_divideInPlace rfl rfl hy2 rfl ?_
    refine ar_icmp M_Y_divideInPlace rfl rfl (fun hc => ?_) (fun hc => ?_)
    · have hc := c2_ge_t (a := i) (b := q) (by omega) (by omega) hc
      have hi2 : i = q := by omega
      rw [hi2] at ha ⊢
      exact K h1 x6 hy ha hF
    · have hc := c2_ge_f (a := i) (b := q) (by omega) (by omega) hc
      have hbi := hB i (by omega)
      have hci := di1_17 hA mu s B i (s + i) (by omega)
      refine ar_go M_Y_divideInPlace 2 _ 40 _ [some (.ref y), some (.ref z), some (.int (nI s)), some (.long (lN mu)), none, some (.int (nI i)), x6, none] _ [.ref z, .long (lN mu)] rfl ?_
      refine ar_get M_Y_divideInPlace rfl rfl hy2 rfl ?_
      refine ar_go M_Y_divideInPlace 1 _ 45 _ [some (.ref y), some (.ref z), some (.int (nI s)), some (.long (lN mu)), none, some (.int (nI i)), x6, none] _ [.int (nI i), .ref (z + 1), .long (lN mu)] rfl ?_
      refine ar_lald M_Y_divideInPlace rfl ha2 (vp_in_nI (by omega) (by decide)) ?_
      rw [nI_clamp (n := i) (by omega)]
      refine ar_CS M_Y_divideInPlace rfl rfl (Nat.le_of_ble_eq_true rfl) rfl rfl (Nat.le_of_ble_eq_true rfl) M_F_times (Nat.le_of_ble_eq_true rfl) (c_F_times X d _ (by omega) (by omega)) (fun r1 h1 hq => ?_)
      obtain ⟨rfl, rfl⟩ := hq
      refine ⟨rfl, ?_⟩
      have hmm : mu * B i % 2147483647 < 2147483647 := Nat.mod_lt _ (by decide)
      show ar Pg _ _ _ 49 [some (.ref y), some (.ref z), some (.int (nI s)), some (.long (lN mu)), none, some (.int (nI i)), x6, none] [.long (lN (mu * B i % 2147483647))] _ _
      refine ar_go M_Y_divideInPlace 2 _ 52 _ [some (.ref y), some (.ref z), some (.int (nI s)), some (.long (lN mu)), none, some (.int (nI i)), some (.long (lN (mu * B i % 2147483647))), none] _ [.ref y] rfl ?_
      refine ar_get M_Y_divideInPlace rfl rfl hy rfl ?_
      refine ar_go M_Y_divideInPlace 3 _ 59 _ [some (.ref y), some (.ref z), some (.int (nI s)), some (.long (lN mu)), none, some (.int (nI i)), some (.long (lN (mu * B i % 2147483647))), none] _ [.int (nI s + nI i), .ref (y + 1)] rfl ?_
      refine ar_top (w := .int (nI (s + i))) (congrArg Value.int (nI_add s i)) ?_
      refine ar_go M_Y_divideInPlace 1 _ 60 _ [some (.ref y), some (.ref z), some (.int (nI s)), some (.long (lN mu)), none, some (.int (nI i)), some (.long (lN (mu * B i % 2147483647))), none] _ [.ref y, .int (nI (s + i)), .ref (y + 1)] rfl ?_
      refine ar_get M_Y_divideInPlace rfl rfl hy rfl ?_
      refine ar_go M_Y_divideInPlace 3 _ 67 _ [some (.ref y), some (.ref z), some (.int (nI s)), some (.long (lN mu)), none, some (.int (nI i)), some (.long (lN (mu * B i % 2147483647))), none] _ [.int (nI s + nI i), .ref (y + 1), .int (nI (s + i)), .ref (y + 1)] rfl ?_
      refine ar_top (w := .int (nI (s + i))) (congrArg Value.int (nI_add s i)) ?_
      refine ar_lald M_Y_divideInPlace rfl ha (vp_in_nI (by omega) (by decide)) ?_
      rw [nI_clamp (n := (s + i)) (by omega)]
      refine ar_go M_Y_divideInPlace 1 _ 70 _ [some (.ref y), some (.ref z), some (.int (nI s)), some (.long (lN mu)), none, some (.int (nI i)), some (.long (lN (mu * B i % 2147483647))), none] _ [.long (lN (mu * B i % 2147483647)), .long (lN ((di1 A mu s B i) (s + i))), .int (nI (s + i)), .ref (y + 1)] rfl ?_
      refine ar_CS M_Y_divideInPlace rfl rfl (Nat.le_of_ble_eq_true rfl) rfl rfl (Nat.le_of_ble_eq_true rfl) M_F_minus (Nat.le_of_ble_eq_true rfl) (c_F_minus X d _ (by omega) (by omega) (by omega)) (fun r1 h1 hq => ?_)
      obtain ⟨rfl, rfl⟩ := hq
      refine ⟨rfl, ?_⟩
      show ar Pg _ _ _ 73 [some (.ref y), some (.ref z), some (.int (nI s)), some (.long (lN mu)), none, some (.int (nI i)), some (.long (lN (mu * B i % 2147483647))), none] [.long (lN ((di1 A mu s B i (s + i) + 2147483647 - mu * B i % 2147483647) % 2147483647)), .int (nI (s + i)), .ref (y + 1)] _ _
      refine ar_last M_Y_divideInPlace rfl ha (vp_in_nI (by omega) (by decide)) (fun h2 hf he => ?_)
      rw [nI_clamp (n := (s + i)) (by omega)] at he
      rw [updL_lN] at he
      have hy := hf.at hy (by simp only [List.mem_cons, List.not_mem_nil, or_false]; omega)
      have hy2 := hf.at hy2 (by simp only [List.mem_cons, List.not_mem_nil, or_false]; omega)
      have ha2 := hf.at ha2 (by simp only [List.mem_cons, List.not_mem_nil, or_false]; omega)
      have ha : h2[(y + 1)]? = some (.inl (1, 17, .inr (.inl (fun z9 => lN ((updN (di1 A mu s B i) (s + i) ((di1 A mu s B i (s + i) + 2147483647 - mu * B i % 2147483647) % 2147483647)) z9))))) := he
      refine ar_go M_Y_divideInPlace 1 _ 77 _ [some (.ref y), some (.ref z), some (.int (nI s)), some (.long (lN mu)), none, some (.int (nI i + Int32.ofInt 1)), some (.long (lN (mu * B i % 2147483647))), none] _ [] rfl ?_
      rw [show nI i + Int32.ofInt 1 = nI (i + 1) from nI_add i 1]
      refine ar_go M_Y_divideInPlace 1 _ 29 _ [some (.ref y), some (.ref z), some (.int (nI s)), some (.long (lN mu)), none, some (.int (nI (i + 1))), some (.long (lN (mu * B i % 2147483647))), none] _ [] rfl ?_
      exact ih (i + 1) h2 _ (by omega) (by omega) hy ha hy2 ha2 (hF.tr hf (by simp) (by simp))
theorem c_Y_d2_loop (X : am_X) (d : Nat) (h : am_H) {y z k q : Nat} {B : Nat → Nat} (hys : y < 1000) (hzs : z < 1000) (hap : z + 2 ≤ y ∨ y + 2 ≤ z) (hk : k ≤ 17) (hB : lt17 B) : ∀ (n : Nat) (h1 : am_H) (A : Nat → Nat) (x3 x5 x6 : Option Value), n + q ≤ 17 → isYO h1 y k → isLA h1 (y + 1) 17 A → isYO h1 z (q + 1) → isLA h1 (z + 1) 17 B → lt17 A → fr [y + 1] h h1 → ar Pg X (d + 1) n_Y_divideInPlace 10 [some (.ref y), some (.ref z), some (.int (dI n)), x3, none, x5, x6, none] [] h1 (fun rr h' => rr = none ∧ fr [y + 1] h h' ∧ isP h' y k (dv B q n A)) := by
  intro n
  induction n with
  | zero =>
    intro h1 A x3 x5 x6 hn hy ha hy2 ha2 hA hF
    refine ar_go M_Y_divideInPlace 1 _ 11 _ [some (.ref y), some (.ref z), some (.int (dI 0)), x3, none, x5, x6, none] _ [.int (-1)] rfl ?_
    refine ar_if M_Y_divideInPlace rfl rfl (fun _ => ?_) (fun z => absurd z (by decide))
    exact ar_R M_Y_divideInPlace rfl rfl rfl rfl ⟨rfl, hF, hk, hy, ha, hA⟩
  | succ n ih =>
    intro h1 A x3 x5 x6 hn hy ha hy2 ha2 hA hF
    unfold isYO at hy hy2
    unfold isLA at ha ha2
    have hy2 : h1[z]? = some (.inr (2, [.ref (z + 1), .int (nI q)])) := hy2
    show ar Pg X (d + 1) n_Y_divideInPlace 10 [some (.ref y), some (.ref z), some (.int (nI n)), x3, none, x5, x6, none] [] h1 _
    refine ar_go M_Y_divideInPlace 1 _ 11 _ [some (.ref y), some (.ref z), some (.int (nI n)), x3, none, x5, x6, none] _ [.int (nI n)] rfl ?_
    refine ar_if M_Y_divideInPlace rfl rfl (fun hc => absurd (of_decide_eq_true hc) (nI_pos (by omega))) (fun _ => ?_)
    have han := hA (n + q) (by omega)
    refine ar_go M_Y_divideInPlace 1 _ 15 _ [some (.ref y), some (.ref z), some (.int (nI n)), x3, none, x5, x6, none] _ [.ref y] rfl ?_
    refine ar_get M_Y_divideInPlace rfl rfl hy rfl ?_
    refine ar_go M_Y_divideInPlace 2 _ 20 _ [some (.ref y), some (.ref z), some (.int (nI n)), x3, none, x5, x6, none] _ [.ref z, .int (nI n), .ref (y + 1)] rfl ?_
    refine ar_get M_Y_divideInPlace rfl rfl hy2 rfl ?_
    refine ar_go M_Y_divideInPlace 1 _ 24 _ [some (.ref y), some (.ref z), some (.int (nI n)), x3, none, x5, x6, none] _ [.int (nI n + nI q), .ref (y + 1)] rfl ?_
    refine ar_top (w := .int (nI (n + q))) (congrArg Value.int (nI_add n q)) ?_
    refine ar_lald M_Y_divideInPlace rfl ha (vp_in_nI (by omega) (by decide)) ?_
    rw [nI_clamp (n := (n + q)) (by omega)]
    refine ar_go M_Y_divideInPlace 3 _ 29 _ [some (.ref y), some (.ref z), some (.int (nI n)), some (.long (lN (A (n + q)))), none, some (.int (nI 0)), x6, none] _ [] rfl ?_
    refine c_Y_d1_loop X d h1 (k := k) hys hzs hap (by omega) hA hB han ?_ (q + 1) 0 h1 _ (by omega) (by omega) hy ha hy2 ha2 (fr.rf _ _)
    intro h2 x6 hy3 ha3 hf
    have hy2 := hf.at hy2 (by simp; omega)
    have ha2 := hf.at ha2 (by simp; omega)
    refine ar_go M_Y_divideInPlace 1 _ 83 _ [some (.ref y), some (.ref z), some (.int (nI n + Int32.ofInt (-1))), some (.long (lN (A (n + q)))), none, some (.int (nI q)), x6, none] _ [] rfl ?_
    rw [show nI n + Int32.ofInt (-1) = dI n from dI_pred n]
    refine ar_go M_Y_divideInPlace 1 _ 10 _ [some (.ref y), some (.ref z), some (.int (dI n)), some (.long (lN (A (n + q)))), none, some (.int (nI q)), x6, none] _ [] rfl ?_
    exact ih h2 _ _ _ _ (by omega) hy3 ha3 hy2 ha2 (di1_17 hA _ _ _ _) (hF.tr hf (by simp) (by simp))
theorem c_Y_divideInPlace (X : am_X) (d : Nat) (h : am_H) {y z k q : Nat} {A B : Nat → Nat} (hP : isP h y k A) (hP2 : isP h z (q + 1) B) (hys : y < 1000) (hzs : z < 1000) (hap : z + 2 ≤ y ∨ y + 2 ≤ z) : ar Pg X (d + 1) n_Y_divideInPlace 0 [some (.ref y), some (.ref z), none, none, none, none, none, none] [] h (fun rr h' => rr = none ∧ fr [y + 1] h h' ∧ isP h' y k (dv B q (k - q) A)) := by
  have hP0 := hP
  have hP20 := hP2
  obtain ⟨hk, hy, ha, hA⟩ := hP
  obtain ⟨hq, hy2, ha2, hB⟩ := hP2
  unfold isYO at hy hy2
  unfold isLA at ha ha2
  have hy2 : h[z]? = some (.inr (2, [.ref (z + 1), .int (nI q)])) := hy2
  refine ar_go M_Y_divideInPlace 1 _ 1 _ [some (.ref y), some (.ref z), none, none, none, none, none, none] _ [.ref y] rfl ?_
  refine ar_get M_Y_divideInPlace rfl rfl hy rfl ?_
  refine ar_go M_Y_divideInPlace 1 _ 5 _ [some (.ref y), some (.ref z), none, none, none, none, none, none] _ [.ref z, .int (dI k)] rfl ?_
  refine ar_get M_Y_divideInPlace rfl rfl hy2 rfl ?_
  refine ar_go M_Y_divideInPlace 1 _ 9 _ [some (.ref y), some (.ref z), none, none, none, none, none, none] _ [.int ((dI k) - nI q)] rfl ?_
  by_cases hkq : k ≤ q
  · refine ar_go M_Y_divideInPlace 2 _ 11 _ [some (.ref y), some (.ref z), some (.int ((dI k) - nI q)), none, none, none, none, none] _ [.int ((dI k) - nI q)] rfl ?_
    refine ar_if M_Y_divideInPlace rfl rfl (fun _ => ?_) (fun z => absurd (dI_neg k (by omega) q (by omega) hkq) (by rw [z]; decide))
    rw [show k - q = 0 by omega]
    exact ar_R M_Y_divideInPlace rfl rfl rfl rfl (⟨rfl, fr.rf _ _, hP0⟩)
  · obtain ⟨k, rfl⟩ : ∃ j, k = j + 1 := ⟨k - 1, by omega⟩
    rw [dI_sub (by omega)]
    refine ar_go M_Y_divideInPlace 1 _ 10 _ [some (.ref y), some (.ref z), some (.int (nI (k - q))), none, none, none, none, none] _ [] rfl ?_
    have := c_Y_d2_loop X d h hys hzs hap hk hB (k - q + 1) h A none none none (by omega) hy ha hy2 ha2 hA (fr.rf _ _)
    rw [show k + 1 - q = k - q + 1 by omega]
    exact this
