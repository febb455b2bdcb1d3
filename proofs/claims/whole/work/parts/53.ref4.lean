/-! The reference: reckoning, samples, values -/
theorem c_M_mul (X : am_X) (d : Nat) (h : am_H) {x y : Nat} (hx : x < 2147483648) (hy : y < 2147483648) : ar Pg X d n_M_mul 0 [some (.long (lN x)), none, some (.long (lN y)), none] [] h (fun rr h' => rr = some (.long (lN (x * y % 2147483647))) ∧ h' = h) := by
  refine ar_go M_M_mul 3 _ 3 _ [some (.long (lN x)), none, some (.long (lN y)), none] _ [.long (lN x * lN y)] rfl ?_
  refine ar_top (w := .long (lN (x * y))) (congrArg Value.long (lN_mul x y)) ?_
  refine ar_go M_M_mul 1 _ 6 _ [some (.long (lN x)), none, some (.long (lN y)), none] _ [.long (lN 2147483647), .long (lN (x * y))] rfl ?_
  refine ar_lrem M_M_mul rfl (by decide) ?_
  refine ar_top (w := .long (lN ((x * y) % 2147483647))) (congrArg Value.long (pk_lRem (by have := Nat.mul_lt_mul'' hx hy; omega) (by decide) (by decide))) ?_
  exact ar_R M_M_mul rfl rfl rfl rfl (⟨rfl, rfl⟩)
theorem lN_ms {x y p : Nat} (h : y ≤ x + p) : lN x - lN y + lN p = lN (x + p - y) := by
  have e : lN (x + p) - lN y = lN (x + p - y) := lN_sub h
  rw [← e, ← lN_add x p, Int64.sub_eq_add_neg, Int64.sub_eq_add_neg, Int64.add_assoc, Int64.add_comm (-lN y), ← Int64.add_assoc]
theorem c_M_minus (X : am_X) (d : Nat) (h : am_H) {x y : Nat} (hx : x < 2147483648) (hy : y < 2147483647) : ar Pg X d n_M_minus 0 [some (.long (lN x)), none, some (.long (lN y)), none] [] h (fun rr h' => rr = some (.long (lN ((x + 2147483647 - y) % 2147483647))) ∧ h' = h) := by
  refine ar_go M_M_minus 3 _ 3 _ [some (.long (lN x)), none, some (.long (lN y)), none] _ [.long (lN x - lN y)] rfl ?_
  refine ar_top (w := .long (lN x - lN y)) (congrArg Value.long rfl) ?_
  refine ar_go M_M_minus 2 _ 7 _ [some (.long (lN x)), none, some (.long (lN y)), none] _ [.long ((lN x - lN y) + lN 2147483647)] rfl ?_
  refine ar_top (w := .long (lN (x + 2147483647 - y))) (congrArg Value.long (lN_ms (by omega))) ?_
  refine ar_go M_M_minus 1 _ 10 _ [some (.long (lN x)), none, some (.long (lN y)), none] _ [.long (lN 2147483647), .long (lN (x + 2147483647 - y))] rfl ?_
  refine ar_lrem M_M_minus rfl (by decide) ?_
  refine ar_top (w := .long (lN ((x + 2147483647 - y) % 2147483647))) (congrArg Value.long (pk_lRem (by omega) (by decide) (by decide))) ?_
  exact ar_R M_M_minus rfl rfl rfl rfl (⟨rfl, rfl⟩)
theorem c_M_point (X : am_X) (d : Nat) (h : am_H) {k : Nat} (hk : k < 2 ^ 31) : ar Pg X d n_M_point 0 [some (.int (nI k))] [] h (fun rr h' => rr = some (.long (lN (1073741824 + k))) ∧ h' = h) := by
  refine ar_go M_M_point 3 _ 5 _ [some (.int (nI k))] _ [.long ((nI k).toInt64), .long (lN 1073741824)] rfl ?_
  refine ar_top (w := .long (lN k)) (congrArg Value.long (nI_l (by omega))) ?_
  refine ar_go M_M_point 1 _ 6 _ [some (.int (nI k))] _ [.long (lN 1073741824 + lN k)] rfl ?_
  refine ar_top (w := .long (lN (1073741824 + k))) (congrArg Value.long (lN_add 1073741824 k)) ?_
  exact ar_R M_M_point rfl rfl rfl rfl (⟨rfl, rfl⟩)
theorem mf_e_odd : ∀ k, k < 31 → ¬ k = 1 → mf_e k % 2 = 1 := by decide +kernel
theorem c_M_iv_loop (X : am_X) (d : Nat) (h : am_H) (x : Nat) : ∀ (n k a q : Nat), n + k = 31 → a < 2147483648 → q < 2147483648 → ar Pg X (d + 1) n_M_inverse 8 [some (.long (lN x)), none, some (.long (lN a)), none, some (.long (lN q)), none, some (.int (nI k))] [] h (fun r h' => r = some (.long (lN (mf_pw n a q (mf_e k)))) ∧ h' = h) := by
  intro n
  induction n with
  | zero =>
    intro k a q hk ha hq
    have hk31 : k = 31 := by omega
    subst hk31
    refine ar_go M_M_inverse 2 _ 12 _ [some (.long (lN x)), none, some (.long (lN a)), none, some (.long (lN q)), none, some (.int (nI 31))] _ [.int (nI 31), .int (nI 31)] rfl ?_
    refine ar_icmp M_M_inverse rfl rfl (fun _ => ?_) (fun z => absurd z (by decide))
    refine ar_go M_M_inverse 1 _ 48 _ [some (.long (lN x)), none, some (.long (lN a)), none, some (.long (lN q)), none, some (.int (nI 31))] _ [.long (lN a)] rfl ?_
    exact ar_R M_M_inverse rfl rfl rfl rfl ⟨rfl, rfl⟩
  | succ n ih =>
    intro k a q hk ha hq
    refine ar_go M_M_inverse 2 _ 12 _ [some (.long (lN x)), none, some (.long (lN a)), none, some (.long (lN q)), none, some (.int (nI k))] _ [.int (nI 31), .int (nI k)] rfl ?_
    refine ar_icmp M_M_inverse rfl rfl (fun hc => ?_) (fun hc => ?_)
    · have hc := c2_ge_t (a := k) (b := 31) (by omega) (by omega) hc
      omega
    · have hc := c2_ge_f (a := k) (b := 31) (by omega) (by omega) hc
      refine ar_go M_M_inverse 2 _ 18 _ [some (.long (lN x)), none, some (.long (lN a)), none, some (.long (lN q)), none, some (.int (nI k))] _ [.int (nI 1), .int (nI k)] rfl ?_
      refine ar_icmp M_M_inverse rfl rfl (fun hc2 => ?_) (fun hc2 => ?_)
      · have hc2 := c2_eq_t (a := k) (b := 1) (by omega) (by omega) hc2
        have ho : ¬ mf_e k % 2 = 1 := by subst hc2; decide
        refine ar_go M_M_inverse 4 _ 36 _ [some (.long (lN x)), none, some (.long (lN a)), none, some (.long (lN q)), none, some (.int (nI k))] _ [.long (lN q), .long (lN q)] rfl ?_
        refine ar_CS M_M_inverse rfl rfl (Nat.le_of_ble_eq_true rfl) rfl rfl (Nat.le_of_ble_eq_true rfl) M_M_mul (Nat.le_of_ble_eq_true rfl) (c_M_mul X d _ hq hq) (fun r1 h1 hq => ?_)
        obtain ⟨rfl, rfl⟩ := hq
        refine ⟨rfl, ?_⟩
        show ar Pg _ _ _ 39 [some (.long (lN x)), none, some (.long (lN a)), none, some (.long (lN q)), none, some (.int (nI k))] [.long (lN (q * q % 2147483647))] _ _
        refine ar_go M_M_inverse 1 _ 41 _ [some (.long (lN x)), none, some (.long (lN a)), none, some (.long (lN (q * q % 2147483647))), none, some (.int (nI k))] _ [] rfl ?_
        refine ar_go M_M_inverse 1 _ 44 _ [some (.long (lN x)), none, some (.long (lN a)), none, some (.long (lN (q * q % 2147483647))), none, some (.int (nI k + Int32.ofInt 1))] _ [] rfl ?_
        rw [show nI k + Int32.ofInt 1 = nI (k + 1) from nI_add k 1]
        refine ar_go M_M_inverse 1 _ 8 _ [some (.long (lN x)), none, some (.long (lN a)), none, some (.long (lN (q * q % 2147483647))), none, some (.int (nI (k + 1)))] _ [] rfl ?_
        rw [mf_pw, if_neg ho, mf_e_half]
        exact ih (k + 1) _ _ (by omega) ha (Nat.lt_trans (Nat.mod_lt _ (by decide)) (by decide))
      · have hc2 := c2_eq_f (a := k) (b := 1) (by omega) (by omega) hc2
        have ho : mf_e k % 2 = 1 := mf_e_odd k (by omega) hc2
        refine ar_go M_M_inverse 2 _ 24 _ [some (.long (lN x)), none, some (.long (lN a)), none, some (.long (lN q)), none, some (.int (nI k))] _ [.long (lN q), .long (lN a)] rfl ?_
        refine ar_CS M_M_inverse rfl rfl (Nat.le_of_ble_eq_true rfl) rfl rfl (Nat.le_of_ble_eq_true rfl) M_M_mul (Nat.le_of_ble_eq_true rfl) (c_M_mul X d _ ha hq) (fun r1 h1 hq => ?_)
        obtain ⟨rfl, rfl⟩ := hq
        refine ⟨rfl, ?_⟩
        show ar Pg _ _ _ 27 [some (.long (lN x)), none, some (.long (lN a)), none, some (.long (lN q)), none, some (.int (nI k))] [.long (lN (a * q % 2147483647))] _ _
        refine ar_go M_M_inverse 4 _ 36 _ [some (.long (lN x)), none, some (.long (lN (a * q % 2147483647))), none, some (.long (lN q)), none, some (.int (nI k))] _ [.long (lN q), .long (lN q)] rfl ?_
        refine ar_CS M_M_inverse rfl rfl (Nat.le_of_ble_eq_true rfl) rfl rfl (Nat.le_of_ble_eq_true rfl) M_M_mul (Nat.le_of_ble_eq_true rfl) (c_M_mul X d _ hq hq) (fun r1 h1 hq => ?_)
        obtain ⟨rfl, rfl⟩ := hq
        refine ⟨rfl, ?_⟩
        show ar Pg _ _ _ 39 [some (.long (lN x)), none, some (.long (lN (a * q % 2147483647))), none, some (.long (lN q)), none, some (.int (nI k))] [.long (lN (q * q % 2147483647))] _ _
        refine ar_go M_M_inverse 1 _ 41 _ [some (.long (lN x)), none, some (.long (lN (a * q % 2147483647))), none, some (.long (lN (q * q % 2147483647))), none, some (.int (nI k))] _ [] rfl ?_
        refine ar_go M_M_inverse 1 _ 44 _ [some (.long (lN x)), none, some (.long (lN (a * q % 2147483647))), none, some (.long (lN (q * q % 2147483647))), none, some (.int (nI k + Int32.ofInt 1))] _ [] rfl ?_
        rw [show nI k + Int32.ofInt 1 = nI (k + 1) from nI_add k 1]
        refine ar_go M_M_inverse 1 _ 8 _ [some (.long (lN x)), none, some (.long (lN (a * q % 2147483647))), none, some (.long (lN (q * q % 2147483647))), none, some (.int (nI (k + 1)))] _ [] rfl ?_
        rw [mf_pw, if_pos ho, mf_e_half]
        exact ih (k + 1) _ _ (by omega) (Nat.lt_trans (Nat.mod_lt _ (by decide)) (by decide)) (Nat.lt_trans (Nat.mod_lt _ (by decide)) (by decide))
theorem c_M_inverse (X : am_X) (d : Nat) (h : am_H) {x : Nat} (hx : x < 2147483648) : ar Pg X (d + 1) n_M_inverse 0 [some (.long (lN x)), none, none, none, none, none, none] [] h (fun rr h' => rr = some (.long (lN (mf_iv x))) ∧ h' = h) := by
  refine ar_go M_M_inverse 6 _ 8 _ [some (.long (lN x)), none, some (.long (lN 1)), none, some (.long (lN x)), none, some (.int (nI 0))] _ [] rfl ?_
  exact c_M_iv_loop X d h x 31 0 1 x rfl (by decide) hx
theorem c_M_so_loop (X : am_X) (d : Nat) (h : am_H) {B : Nat → Bk} {s : Int64} {ud ld pr uD lD nd tn : Int32} (h56 : isM0 h s ud ld pr uD lD nd tn) (hB : isMb h B) {b k : Nat} (hb : b < 4) (hk : k < 18) : ∀ (n i : Nat), (B b).length - i < n → i ≤ (B b).length → ar Pg X (d + 1) n_M_sampleOf 5 [some (.ref 56), some (.int (nI b)), some (.int (nI k)), some (.long (lN (smp (B b) (1073741824 + k) i))), none, some (.int (nI i))] [] h (fun rr h' => rr = some (.long (lN (sq (B b) k))) ∧ h' = h) := by
  have hB0 := hB
  obtain ⟨sz, nu, ve, gr, dr, ⟨h57, h58, h59, h60, h61⟩, hc0⟩ := hB
  have h560 := h56
  unfold isM0 at h56
  obtain ⟨hsz, ⟨hlen, hS, hV⟩, hfa⟩ := hc0 b hb
  intro n
  induction n with
  | zero => intro i hi; omega
  | succ n ih =>
    intro i hi hil
    refine ar_go M_M_sampleOf 2 _ 8 _ [some (.ref 56), some (.int (nI b)), some (.int (nI k)), some (.long (lN (smp (B b) (1073741824 + k) i))), none, some (.int (nI i))] _ [.ref 56, .int (nI i)] rfl ?_
    refine ar_get M_M_sampleOf rfl rfl h56 rfl ?_
    refine ar_go M_M_sampleOf 1 _ 12 _ [some (.ref 56), some (.int (nI b)), some (.int (nI k)), some (.long (lN (smp (B b) (1073741824 + k) i))), none, some (.int (nI i))] _ [.int (nI b), .ref 57, .int (nI i)] rfl ?_
    refine ar_iald M_M_sampleOf rfl (by unfold am_x0; omega) h57 (vp_in_nI (by omega) (by decide)) ?_
    rw [nI_clamp (n := b) (by omega)]
    refine ar_top (w := .int (nI ((B b).length))) (congrArg Value.int hsz) ?_
    refine ar_icmp M_M_sampleOf rfl rfl (fun hc => ?_) (fun hc => ?_)
    · have hc := c2_ge_t (a := i) (b := ((B b).length)) (by omega) (by omega) hc
      have hi2 : i = (B b).length := by omega
      refine ar_go M_M_sampleOf 1 _ 45 _ [some (.ref 56), some (.int (nI b)), some (.int (nI k)), some (.long (lN (smp (B b) (1073741824 + k) i))), none, some (.int (nI i))] _ [.long (lN (smp (B b) (1073741824 + k) i))] rfl ?_
      exact ar_R M_M_sampleOf rfl rfl rfl rfl (⟨by rw [hi2]; rfl, rfl⟩)
    · have hc := c2_ge_f (a := i) (b := ((B b).length)) (by omega) (by omega) hc
      have hwi := hV.W i (by omega)
      have hsl := smp_lt (B b) (1073741824 + k) i
      refine ar_go M_M_sampleOf 2 _ 18 _ [some (.ref 56), some (.int (nI b)), some (.int (nI k)), some (.long (lN (smp (B b) (1073741824 + k) i))), none, some (.int (nI i))] _ [.int (nI k), .long (lN (smp (B b) (1073741824 + k) i))] rfl ?_
      refine ar_CS M_M_sampleOf rfl rfl (Nat.le_of_ble_eq_true rfl) rfl rfl (Nat.le_of_ble_eq_true rfl) M_M_point (Nat.le_of_ble_eq_true rfl) (c_M_point X d _ (k := k) (by omega)) (fun r1 h1 hq => ?_)
      obtain ⟨rfl, rfl⟩ := hq
      refine ⟨rfl, ?_⟩
      show ar Pg _ _ _ 21 [some (.ref 56), some (.int (nI b)), some (.int (nI k)), some (.long (lN (smp (B b) (1073741824 + k) i))), none, some (.int (nI i))] [.long (lN (1073741824 + k)), .long (lN (smp (B b) (1073741824 + k) i))] _ _
      refine ar_go M_M_sampleOf 4 _ 26 _ [some (.ref 56), some (.int (nI b)), some (.int (nI k)), some (.long (lN (smp (B b) (1073741824 + k) i))), none, some (.int (nI i))] _ [.int (nI 64 * nI b), .ref 56, .long (lN (1073741824 + k)), .long (lN (smp (B b) (1073741824 + k) i))] rfl ?_
      refine ar_top (w := .int (nI (64 * b))) (congrArg Value.int (pk_mul 64 b)) ?_
      refine ar_go M_M_sampleOf 2 _ 29 _ [some (.ref 56), some (.int (nI b)), some (.int (nI k)), some (.long (lN (smp (B b) (1073741824 + k) i))), none, some (.int (nI i))] _ [.int (nI (64 * b) + nI i), .ref 56, .long (lN (1073741824 + k)), .long (lN (smp (B b) (1073741824 + k) i))] rfl ?_
      refine ar_top (w := .int (nI ((64 * b) + i))) (congrArg Value.int (nI_add (64 * b) i)) ?_
      refine ar_CV M_M_sampleOf rfl rfl (Or.inl rfl) rfl rfl (Nat.le_of_ble_eq_true rfl) h56 M_M_wordAt (Nat.le_of_ble_eq_true rfl) (c_M_wordAt X d _ h560 hB0 hb (i := i) (by omega)) (fun r1 h1 hq => ?_)
      obtain ⟨rfl, rfl⟩ := hq
      refine ⟨rfl, ?_⟩
      show ar Pg _ _ _ 32 [some (.ref 56), some (.int (nI b)), some (.int (nI k)), some (.long (lN (smp (B b) (1073741824 + k) i))), none, some (.int (nI i))] [.int (nI (wd (B b) i)), .long (lN (1073741824 + k)), .long (lN (smp (B b) (1073741824 + k) i))] _ _
      refine ar_go M_M_sampleOf 1 _ 33 _ [some (.ref 56), some (.int (nI b)), some (.int (nI k)), some (.long (lN (smp (B b) (1073741824 + k) i))), none, some (.int (nI i))] _ [.long ((nI (wd (B b) i)).toInt64), .long (lN (1073741824 + k)), .long (lN (smp (B b) (1073741824 + k) i))] rfl ?_
      refine ar_top (w := .long (lN (wd (B b) i))) (congrArg Value.long (nI_l (by omega))) ?_
      refine ar_go M_M_sampleOf 1 _ 34 _ [some (.ref 56), some (.int (nI b)), some (.int (nI k)), some (.long (lN (smp (B b) (1073741824 + k) i))), none, some (.int (nI i))] _ [.long (lN (1073741824 + k) - lN (wd (B b) i)), .long (lN (smp (B b) (1073741824 + k) i))] rfl ?_
      refine ar_top (w := .long (lN ((1073741824 + k) - (wd (B b) i)))) (congrArg Value.long (lN_sub (by omega))) ?_
      refine ar_CS M_M_sampleOf rfl rfl (Nat.le_of_ble_eq_true rfl) rfl rfl (Nat.le_of_ble_eq_true rfl) M_M_mul (Nat.le_of_ble_eq_true rfl) (c_M_mul X d _ (by omega) (by omega)) (fun r1 h1 hq => ?_)
      obtain ⟨rfl, rfl⟩ := hq
      refine ⟨rfl, ?_⟩
      show ar Pg _ _ _ 37 [some (.ref 56), some (.int (nI b)), some (.int (nI k)), some (.long (lN (smp (B b) (1073741824 + k) i))), none, some (.int (nI i))] [.long (lN (smp (B b) (1073741824 + k) (i + 1)))] _ _
      refine ar_go M_M_sampleOf 1 _ 38 _ [some (.ref 56), some (.int (nI b)), some (.int (nI k)), some (.long (lN (smp (B b) (1073741824 + k) (i + 1)))), none, some (.int (nI i))] _ [] rfl ?_
      refine ar_go M_M_sampleOf 1 _ 41 _ [some (.ref 56), some (.int (nI b)), some (.int (nI k)), some (.long (lN (smp (B b) (1073741824 + k) (i + 1)))), none, some (.int (nI i + Int32.ofInt 1))] _ [] rfl ?_
      rw [show nI i + Int32.ofInt 1 = nI (i + 1) from nI_add i 1]
      refine ar_go M_M_sampleOf 1 _ 5 _ [some (.ref 56), some (.int (nI b)), some (.int (nI k)), some (.long (lN (smp (B b) (1073741824 + k) (i + 1)))), none, some (.int (nI (i + 1)))] _ [] rfl ?_
      exact ih (i + 1) (by omega) (by omega)
theorem c_M_sampleOf (X : am_X) (d : Nat) (h : am_H) {B : Nat → Bk} {s : Int64} {ud ld pr uD lD nd tn : Int32} (h56 : isM0 h s ud ld pr uD lD nd tn) (hB : isMb h B) {b k : Nat} (hb : b < 4) (hk : k < 18) : ar Pg X (d + 1) n_M_sampleOf 0 [some (.ref 56), some (.int (nI b)), some (.int (nI k)), none, none, none] [] h (fun rr h' => rr = some (.long (lN (sq (B b) k))) ∧ h' = h) := by
  refine ar_go M_M_sampleOf 4 _ 5 _ [some (.ref 56), some (.int (nI b)), some (.int (nI k)), some (.long (lN 1)), none, some (.int (nI 0))] _ [] rfl ?_
  exact c_M_so_loop X d h h56 hB hb hk ((B b).length + 1) 0 (by omega) (by omega)
theorem c_M_sample (X : am_X) (d : Nat) (h : am_H) {B : Nat → Bk} {s : Int64} {ud ld pr uD lD nd tn : Int32} (h56 : isM0 h s ud ld pr uD lD nd tn) (hB : isMb h B) (v w : Int32) : ar Pg X (d + 1 + 1) n_M_sample 0 [some (.ref 56), some (.int v), some (.int w)] [] h (fun rr h' => rr = some (.int (smR B v w)) ∧ h' = h) := by
  have hB0 := hB
  obtain ⟨sz, nu, ve, gr, dr, ⟨h57, h58, h59, h60, h61⟩, hc0⟩ := hB
  have h560 := h56
  unfold isM0 at h56
  refine ar_go M_M_sample 1 _ 1 _ [some (.ref 56), some (.int v), some (.int w)] _ [.int v] rfl ?_
  refine ar_CS M_M_sample rfl rfl (Nat.le_of_ble_eq_true rfl) rfl rfl (Nat.le_of_ble_eq_true rfl) M_M_isBank (Nat.le_of_ble_eq_true rfl) (c_M_isBank X (d + 1) _ v) (fun r1 h1 hq => ?_)
  obtain ⟨rfl, rfl⟩ := hq
  refine ⟨rfl, ?_⟩
  show ar Pg _ _ _ 4 [some (.ref 56), some (.int v), some (.int w)] [.int (bi (rng 4 v))] _ _
  refine ar_if M_M_sample rfl rfl (fun hc1 => ?_) (fun hc1 => ?_)
  · have hc1 := bi_eq_t hc1
    refine ar_go M_M_sample 1 _ 28 _ [some (.ref 56), some (.int v), some (.int w)] _ [.int (-1)] rfl ?_
    exact ar_R M_M_sample rfl rfl rfl rfl (⟨by rw [smR, if_neg (by simp [hc1])] <;> rfl, rfl⟩)
  · have hc1 := bi_eq_f hc1
    have hcc := hc1
    obtain ⟨b, hb, rfl⟩ := rng_ex (by decide) hc1
    refine ar_go M_M_sample 1 _ 8 _ [some (.ref 56), some (.int (nI b)), some (.int w)] _ [.int w] rfl ?_
    refine ar_if M_M_sample rfl rfl (fun hc2 => ?_) (fun hc2 => ?_)
    · refine ar_go M_M_sample 1 _ 28 _ [some (.ref 56), some (.int (nI b)), some (.int w)] _ [.int (-1)] rfl ?_
      exact ar_R M_M_sample rfl rfl rfl rfl (⟨by rw [smR, if_neg (by simp [rng, hc2])] <;> rfl, rfl⟩)
    · obtain ⟨k, hk, rfl⟩ := nn_ex hc2
      refine ar_go M_M_sample 2 _ 14 _ [some (.ref 56), some (.int (nI b)), some (.int (nI k))] _ [.int (nI 17), .int (nI k)] rfl ?_
      refine ar_icmp M_M_sample rfl rfl (fun hc3 => ?_) (fun hc3 => ?_)
      · have hc3 := c2_gt_t (a := k) (b := 17) (by omega) (by omega) hc3
        refine ar_go M_M_sample 1 _ 28 _ [some (.ref 56), some (.int (nI b)), some (.int (nI k))] _ [.int (-1)] rfl ?_
        exact ar_R M_M_sample rfl rfl rfl rfl (⟨by rw [smR, if_neg (by rw [rng_f (show 18 ≤ k by omega) hk, Bool.and_false]; decide)] <;> rfl, rfl⟩)
      · have hc3 := c2_gt_f (a := k) (b := 17) (by omega) (by omega) hc3
        have hsl := smp_lt (B b) (1073741824 + k) (B b).length
        refine ar_go M_M_sample 3 _ 20 _ [some (.ref 56), some (.int (nI b)), some (.int (nI k))] _ [.int (nI k), .int (nI b), .ref 56] rfl ?_
        refine ar_CV M_M_sample rfl rfl (Or.inl rfl) rfl rfl (Nat.le_of_ble_eq_true rfl) h56 M_M_sampleOf (Nat.le_of_ble_eq_true rfl) (c_M_sampleOf X d _ h560 hB0 hb (k := k) (by omega)) (fun r1 h1 hq => ?_)
        obtain ⟨rfl, rfl⟩ := hq
        refine ⟨rfl, ?_⟩
        show ar Pg _ _ _ 23 [some (.ref 56), some (.int (nI b)), some (.int (nI k))] [.long (lN (sq (B b) k))] _ _
        refine ar_go M_M_sample 1 _ 24 _ [some (.ref 56), some (.int (nI b)), some (.int (nI k))] _ [.int ((lN (sq (B b) k)).toInt32)] rfl ?_
        refine ar_top (w := .int (nI (sq (B b) k))) (congrArg Value.int (lN_i (sq (B b) k))) ?_
        refine ar_go M_M_sample 1 _ 28 _ [some (.ref 56), some (.int (nI b)), some (.int (nI k))] _ [.int (nI (sq (B b) k))] rfl ?_
        exact ar_R M_M_sample rfl rfl rfl rfl (⟨by rw [smR, nI_clamp (show b < 2 ^ 31 by omega), nI_clamp (show k < 2 ^ 31 by omega), if_pos (by rw [hcc, rng_t (show k < 18 by omega) (by omega)]; rfl)] <;> rfl, rfl⟩)
theorem c_M_upAt_loop (X : am_X) (d : Nat) (h : am_H) {s : Int64} {ld pr uD lD nd tn : Int32} {k x : Nat} {U : Nat → Nat} (h56 : isM0 h s (dI k) ld pr uD lD nd tn) (hA : isLA h 62 17 U) (hl17 : lt17 U) (hk : k ≤ 17) (hx : x < 2147483648) : ∀ (j : Nat), j ≤ k → ar Pg X (d + 1) n_M_upAt 8 [some (.ref 56), some (.long (lN x)), none, some (.long (lN (hvS U x (k - j) j))), none, some (.int (dI j))] [] h (fun rr h' => rr = some (.long (lN (hvS U x k 0))) ∧ h' = h) := by
  unfold isM0 at h56
  unfold isLA at hA
  intro j
  induction j with
  | zero =>
    intro hj
    refine ar_go M_M_upAt 1 _ 10 _ [some (.ref 56), some (.long (lN x)), none, some (.long (lN (hvS U x (k - 0) 0))), none, some (.int (dI 0))] _ [.int (-1)] rfl ?_
    refine ar_if M_M_upAt rfl rfl (fun _ => ?_) (fun z => absurd z (by decide))
    refine ar_go M_M_upAt 1 _ 38 _ [some (.ref 56), some (.long (lN x)), none, some (.long (lN (hvS U x (k - 0) 0))), none, some (.int (dI 0))] _ [.long (lN (hvS U x (k - 0) 0))] rfl ?_
    exact ar_R M_M_upAt rfl rfl rfl rfl ⟨rfl, rfl⟩
  | succ j ih =>
    intro hj
    refine ar_go M_M_upAt 1 _ 10 _ [some (.ref 56), some (.long (lN x)), none, some (.long (lN (hvS U x (k - (j + 1)) (j + 1)))), none, some (.int (nI j))] _ [.int (nI j)] rfl ?_
    refine ar_if M_M_upAt rfl rfl (fun hc => absurd (of_decide_eq_true hc) (nI_pos (by omega))) (fun _ => ?_)
    refine ar_go M_M_upAt 2 _ 15 _ [some (.ref 56), some (.long (lN x)), none, some (.long (lN (hvS U x (k - (j + 1)) (j + 1)))), none, some (.int (nI j))] _ [.long (lN x), .long (lN (hvS U x (k - (j + 1)) (j + 1)))] rfl ?_
    refine ar_CS M_M_upAt rfl rfl (Nat.le_of_ble_eq_true rfl) rfl rfl (Nat.le_of_ble_eq_true rfl) M_M_mul (Nat.le_of_ble_eq_true rfl) (c_M_mul X d _ (Nat.lt_trans (hvS_lt U x _ _) (by decide)) hx) (fun r1 h1 hq => ?_)
    obtain ⟨rfl, rfl⟩ := hq
    refine ⟨rfl, ?_⟩
    have haj := hl17 j (by omega)
    have hmm : hvS U x (k - (j + 1)) (j + 1) * x % 2147483647 < 2147483647 := Nat.mod_lt _ (by decide)
    show ar Pg _ _ _ 18 [some (.ref 56), some (.long (lN x)), none, some (.long (lN (hvS U x (k - (j + 1)) (j + 1)))), none, some (.int (nI j))] [.long (lN (hvS U x (k - (j + 1)) (j + 1) * x % 2147483647))] _ _
    refine ar_go M_M_upAt 1 _ 19 _ [some (.ref 56), some (.long (lN x)), none, some (.long (lN (hvS U x (k - (j + 1)) (j + 1)))), none, some (.int (nI j))] _ [.ref 56, .long (lN (hvS U x (k - (j + 1)) (j + 1) * x % 2147483647))] rfl ?_
    refine ar_get M_M_upAt rfl rfl h56 rfl ?_
    refine ar_go M_M_upAt 1 _ 24 _ [some (.ref 56), some (.long (lN x)), none, some (.long (lN (hvS U x (k - (j + 1)) (j + 1)))), none, some (.int (nI j))] _ [.int (nI j), .ref 62, .long (lN (hvS U x (k - (j + 1)) (j + 1) * x % 2147483647))] rfl ?_
    refine ar_lald M_M_upAt rfl hA (vp_in_nI (by omega) (by decide)) ?_
    rw [nI_clamp (n := j) (by omega)]
    refine ar_go M_M_upAt 1 _ 26 _ [some (.ref 56), some (.long (lN x)), none, some (.long (lN (hvS U x (k - (j + 1)) (j + 1)))), none, some (.int (nI j))] _ [.long (lN (hvS U x (k - (j + 1)) (j + 1) * x % 2147483647) + lN (U j))] rfl ?_
    refine ar_top (w := .long (lN ((hvS U x (k - (j + 1)) (j + 1) * x % 2147483647) + (U j)))) (congrArg Value.long (lN_add (hvS U x (k - (j + 1)) (j + 1) * x % 2147483647) (U j))) ?_
    refine ar_go M_M_upAt 1 _ 29 _ [some (.ref 56), some (.long (lN x)), none, some (.long (lN (hvS U x (k - (j + 1)) (j + 1)))), none, some (.int (nI j))] _ [.long (lN 2147483647), .long (lN ((hvS U x (k - (j + 1)) (j + 1) * x % 2147483647) + (U j)))] rfl ?_
    refine ar_lrem M_M_upAt rfl (by decide) ?_
    refine ar_top (w := .long (lN (((hvS U x (k - (j + 1)) (j + 1) * x % 2147483647) + (U j)) % 2147483647))) (congrArg Value.long (pk_lRem (by omega) (by decide) (by decide))) ?_
    rw [show (hvS U x (k - (j + 1)) (j + 1) * x % 2147483647 + U j) % 2147483647 = hvS U x (k - j) j by rw [show k - j = k - (j + 1) + 1 by omega]; rfl]
    refine ar_go M_M_upAt 1 _ 31 _ [some (.ref 56), some (.long (lN x)), none, some (.long (lN (hvS U x (k - j) j))), none, some (.int (nI j))] _ [] rfl ?_
    refine ar_go M_M_upAt 1 _ 34 _ [some (.ref 56), some (.long (lN x)), none, some (.long (lN (hvS U x (k - j) j))), none, some (.int (nI j + Int32.ofInt (-1)))] _ [] rfl ?_
    rw [show nI j + Int32.ofInt (-1) = dI j from dI_pred j]
    refine ar_go M_M_upAt 1 _ 8 _ [some (.ref 56), some (.long (lN x)), none, some (.long (lN (hvS U x (k - j) j))), none, some (.int (dI j))] _ [] rfl ?_
    exact ih (by omega)
theorem c_M_upAt (X : am_X) (d : Nat) (h : am_H) {s : Int64} {ld pr uD lD nd tn : Int32} {k x : Nat} {U : Nat → Nat} (h56 : isM0 h s (dI k) ld pr uD lD nd tn) (hA : isLA h 62 17 U) (hl17 : lt17 U) (hk : k ≤ 17) (hx : x < 2147483648) : ar Pg X (d + 1) n_M_upAt 0 [some (.ref 56), some (.long (lN x)), none, none, none, none] [] h (fun rr h' => rr = some (.long (lN (hvS U x k 0))) ∧ h' = h) := by
  have h560 := h56
  unfold isM0 at h56
  refine ar_go M_M_upAt 3 _ 3 _ [some (.ref 56), some (.long (lN x)), none, some (.long (lN 0)), none, none] _ [.ref 56] rfl ?_
  refine ar_get M_M_upAt rfl rfl h56 rfl ?_
  refine ar_go M_M_upAt 1 _ 8 _ [some (.ref 56), some (.long (lN x)), none, some (.long (lN 0)), none, some (.int (dI k))] _ [] rfl ?_
  have := c_M_upAt_loop X d h h560 hA hl17 hk hx k (Nat.le_refl _)
  rw [Nat.sub_self] at this
  exact this
theorem c_M_lowAt_loop (X : am_X) (d : Nat) (h : am_H) {s : Int64} {ud pr uD lD nd tn : Int32} {k x : Nat} {W : Nat → Nat} (h56 : isM0 h s ud (dI k) pr uD lD nd tn) (hA : isLA h 63 17 W) (hl17 : lt17 W) (hk : k ≤ 17) (hx : x < 2147483648) : ∀ (j : Nat), j ≤ k → ar Pg X (d + 1) n_M_lowAt 8 [some (.ref 56), some (.long (lN x)), none, some (.long (lN (hvS W x (k - j) j))), none, some (.int (dI j))] [] h (fun rr h' => rr = some (.long (lN (hvS W x k 0))) ∧ h' = h) := by
  unfold isM0 at h56
  unfold isLA at hA
  intro j
  induction j with
  | zero =>
    intro hj
    refine ar_go M_M_lowAt 1 _ 10 _ [some (.ref 56), some (.long (lN x)), none, some (.long (lN (hvS W x (k - 0) 0))), none, some (.int (dI 0))] _ [.int (-1)] rfl ?_
    refine ar_if M_M_lowAt rfl rfl (fun _ => ?_) (fun z => absurd z (by decide))
    refine ar_go M_M_lowAt 1 _ 38 _ [some (.ref 56), some (.long (lN x)), none, some (.long (lN (hvS W x (k - 0) 0))), none, some (.int (dI 0))] _ [.long (lN (hvS W x (k - 0) 0))] rfl ?_
    exact ar_R M_M_lowAt rfl rfl rfl rfl ⟨rfl, rfl⟩
  | succ j ih =>
    intro hj
    refine ar_go M_M_lowAt 1 _ 10 _ [some (.ref 56), some (.long (lN x)), none, some (.long (lN (hvS W x (k - (j + 1)) (j + 1)))), none, some (.int (nI j))] _ [.int (nI j)] rfl ?_
    refine ar_if M_M_lowAt rfl rfl (fun hc => absurd (of_decide_eq_true hc) (nI_pos (by omega))) (fun _ => ?_)
    refine ar_go M_M_lowAt 2 _ 15 _ [some (.ref 56), some (.long (lN x)), none, some (.long (lN (hvS W x (k - (j + 1)) (j + 1)))), none, some (.int (nI j))] _ [.long (lN x), .long (lN (hvS W x (k - (j + 1)) (j + 1)))] rfl ?_
    refine ar_CS M_M_lowAt rfl rfl (Nat.le_of_ble_eq_true rfl) rfl rfl (Nat.le_of_ble_eq_true rfl) M_M_mul (Nat.le_of_ble_eq_true rfl) (c_M_mul X d _ (Nat.lt_trans (hvS_lt W x _ _) (by decide)) hx) (fun r1 h1 hq => ?_)
    obtain ⟨rfl, rfl⟩ := hq
    refine ⟨rfl, ?_⟩
    have haj := hl17 j (by omega)
    have hmm : hvS W x (k - (j + 1)) (j + 1) * x % 2147483647 < 2147483647 := Nat.mod_lt _ (by decide)
    show ar Pg _ _ _ 18 [some (.ref 56), some (.long (lN x)), none, some (.long (lN (hvS W x (k - (j + 1)) (j + 1)))), none, some (.int (nI j))] [.long (lN (hvS W x (k - (j + 1)) (j + 1) * x % 2147483647))] _ _
    refine ar_go M_M_lowAt 1 _ 19 _ [some (.ref 56), some (.long (lN x)), none, some (.long (lN (hvS W x (k - (j + 1)) (j + 1)))), none, some (.int (nI j))] _ [.ref 56, .long (lN (hvS W x (k - (j + 1)) (j + 1) * x % 2147483647))] rfl ?_
    refine ar_get M_M_lowAt rfl rfl h56 rfl ?_
    refine ar_go M_M_lowAt 1 _ 24 _ [some (.ref 56), some (.long (lN x)), none, some (.long (lN (hvS W x (k - (j + 1)) (j + 1)))), none, some (.int (nI j))] _ [.int (nI j), .ref 63, .long (lN (hvS W x (k - (j + 1)) (j + 1) * x % 2147483647))] rfl ?_
    refine ar_lald M_M_lowAt rfl hA (vp_in_nI (by omega) (by decide)) ?_
    rw [nI_clamp (n := j) (by omega)]
    refine ar_go M_M_lowAt 1 _ 26 _ [some (.ref 56), some (.long (lN x)), none, some (.long (lN (hvS W x (k - (j + 1)) (j + 1)))), none, some (.int (nI j))] _ [.long (lN (hvS W x (k - (j + 1)) (j + 1) * x % 2147483647) + lN (W j))] rfl ?_
    refine ar_top (w := .long (lN ((hvS W x (k - (j + 1)) (j + 1) * x % 2147483647) + (W j)))) (congrArg Value.long (lN_add (hvS W x (k - (j + 1)) (j + 1) * x % 2147483647) (W j))) ?_
    refine ar_go M_M_lowAt 1 _ 29 _ [some (.ref 56), some (.long (lN x)), none, some (.long (lN (hvS W x (k - (j + 1)) (j + 1)))), none, some (.int (nI j))] _ [.long (lN 2147483647), .long (lN ((hvS W x (k - (j + 1)) (j + 1) * x % 2147483647) + (W j)))] rfl ?_
    refine ar_lrem M_M_lowAt rfl (by decide) ?_
    refine ar_top (w := .long (lN (((hvS W x (k - (j + 1)) (j + 1) * x % 2147483647) + (W j)) % 2147483647))) (congrArg Value.long (pk_lRem (by omega) (by decide) (by decide))) ?_
    rw [show (hvS W x (k - (j + 1)) (j + 1) * x % 2147483647 + W j) % 2147483647 = hvS W x (k - j) j by rw [show k - j = k - (j + 1) + 1 by omega]; rfl]
    refine ar_go M_M_lowAt 1 _ 31 _ [some (.ref 56), some (.long (lN x)), none, some (.long (lN (hvS W x (k - j) j))), none, some (.int (nI j))] _ [] rfl ?_
    refine ar_go M_M_lowAt 1 _ 34 _ [some (.ref 56), some (.long (lN x)), none, some (.long (lN (hvS W x (k - j) j))), none, some (.int (nI j + Int32.ofInt (-1)))] _ [] rfl ?_
    rw [show nI j + Int32.ofInt (-1) = dI j from dI_pred j]
    refine ar_go M_M_lowAt 1 _ 8 _ [some (.ref 56), some (.long (lN x)), none, some (.long (lN (hvS W x (k - j) j))), none, some (.int (dI j))] _ [] rfl ?_
    exact ih (by omega)
theorem c_M_lowAt (X : am_X) (d : Nat) (h : am_H) {s : Int64} {ud pr uD lD nd tn : Int32} {k x : Nat} {W : Nat → Nat} (h56 : isM0 h s ud (dI k) pr uD lD nd tn) (hA : isLA h 63 17 W) (hl17 : lt17 W) (hk : k ≤ 17) (hx : x < 2147483648) : ar Pg X (d + 1) n_M_lowAt 0 [some (.ref 56), some (.long (lN x)), none, none, none, none] [] h (fun rr h' => rr = some (.long (lN (hvS W x k 0))) ∧ h' = h) := by
  have h560 := h56
  unfold isM0 at h56
  refine ar_go M_M_lowAt 3 _ 3 _ [some (.ref 56), some (.long (lN x)), none, some (.long (lN 0)), none, none] _ [.ref 56] rfl ?_
  refine ar_get M_M_lowAt rfl rfl h56 rfl ?_
  refine ar_go M_M_lowAt 1 _ 8 _ [some (.ref 56), some (.long (lN x)), none, some (.long (lN 0)), none, some (.int (dI k))] _ [] rfl ?_
  have := c_M_lowAt_loop X d h h560 hA hl17 hk hx k (Nat.le_refl _)
  rw [Nat.sub_self] at this
  exact this
theorem c_M_vo_loop (X : am_X) (d : Nat) (h : am_H) {s : Int64} {ud ld pr uD lD nd tn : Int32} {k x fm : Nat} {A : Nat → Nat} (h56 : isM0 h s ud ld pr uD lD nd tn) (hA : isLA h 64 612 A) (hl : ∀ j, j < k → A (fm + j) < 2147483647) (hk : k ≤ 17) (hfm : fm + k ≤ 612) (hx : x < 2147483648) : ∀ (j : Nat), j ≤ k → ar Pg X (d + 1) n_M_valueOf 6 [some (.ref 56), some (.int (nI fm)), some (.int (dI k)), some (.long (lN x)), none, some (.long (lN (hvS (fun i => A (fm + i)) x (k - j) j))), none, some (.int (dI j))] [] h (fun rr h' => rr = some (.long (lN (hvS (fun i => A (fm + i)) x k 0))) ∧ h' = h) := by
  unfold isM0 at h56
  unfold isLA at hA
  intro j
  induction j with
  | zero =>
    intro hj
    refine ar_go M_M_valueOf 1 _ 8 _ [some (.ref 56), some (.int (nI fm)), some (.int (dI k)), some (.long (lN x)), none, some (.long (lN (hvS (fun i => A (fm + i)) x (k - 0) 0))), none, some (.int (dI 0))] _ [.int (-1)] rfl ?_
    refine ar_if M_M_valueOf rfl rfl (fun _ => ?_) (fun z => absurd z (by decide))
    refine ar_go M_M_valueOf 1 _ 41 _ [some (.ref 56), some (.int (nI fm)), some (.int (dI k)), some (.long (lN x)), none, some (.long (lN (hvS (fun i => A (fm + i)) x (k - 0) 0))), none, some (.int (dI 0))] _ [.long (lN (hvS (fun i => A (fm + i)) x (k - 0) 0))] rfl ?_
    exact ar_R M_M_valueOf rfl rfl rfl rfl ⟨rfl, rfl⟩
  | succ j ih =>
    intro hj
    refine ar_go M_M_valueOf 1 _ 8 _ [some (.ref 56), some (.int (nI fm)), some (.int (dI k)), some (.long (lN x)), none, some (.long (lN (hvS (fun i => A (fm + i)) x (k - (j + 1)) (j + 1)))), none, some (.int (nI j))] _ [.int (nI j)] rfl ?_
    refine ar_if M_M_valueOf rfl rfl (fun hc => absurd (of_decide_eq_true hc) (nI_pos (by omega))) (fun _ => ?_)
    refine ar_go M_M_valueOf 2 _ 14 _ [some (.ref 56), some (.int (nI fm)), some (.int (dI k)), some (.long (lN x)), none, some (.long (lN (hvS (fun i => A (fm + i)) x (k - (j + 1)) (j + 1)))), none, some (.int (nI j))] _ [.long (lN x), .long (lN (hvS (fun i => A (fm + i)) x (k - (j + 1)) (j + 1)))] rfl ?_
    refine ar_CS M_M_valueOf rfl rfl (Nat.le_of_ble_eq_true rfl) rfl rfl (Nat.le_of_ble_eq_true rfl) M_M_mul (Nat.le_of_ble_eq_true rfl) (c_M_mul X d _ (Nat.lt_trans (hvS_lt (fun i => A (fm + i)) x _ _) (by decide)) hx) (fun r1 h1 hq => ?_)
    obtain ⟨rfl, rfl⟩ := hq
    refine ⟨rfl, ?_⟩
    have haj := hl j (by omega)
    have hmm : hvS (fun i => A (fm + i)) x (k - (j + 1)) (j + 1) * x % 2147483647 < 2147483647 := Nat.mod_lt _ (by decide)
    show ar Pg _ _ _ 17 [some (.ref 56), some (.int (nI fm)), some (.int (dI k)), some (.long (lN x)), none, some (.long (lN (hvS (fun i => A (fm + i)) x (k - (j + 1)) (j + 1)))), none, some (.int (nI j))] [.long (lN (hvS (fun i => A (fm + i)) x (k - (j + 1)) (j + 1) * x % 2147483647))] _ _
    refine ar_go M_M_valueOf 1 _ 18 _ [some (.ref 56), some (.int (nI fm)), some (.int (dI k)), some (.long (lN x)), none, some (.long (lN (hvS (fun i => A (fm + i)) x (k - (j + 1)) (j + 1)))), none, some (.int (nI j))] _ [.ref 56, .long (lN (hvS (fun i => A (fm + i)) x (k - (j + 1)) (j + 1) * x % 2147483647))] rfl ?_
    refine ar_get M_M_valueOf rfl rfl h56 rfl ?_
    refine ar_go M_M_valueOf 3 _ 25 _ [some (.ref 56), some (.int (nI fm)), some (.int (dI k)), some (.long (lN x)), none, some (.long (lN (hvS (fun i => A (fm + i)) x (k - (j + 1)) (j + 1)))), none, some (.int (nI j))] _ [.int (nI fm + nI j), .ref 64, .long (lN (hvS (fun i => A (fm + i)) x (k - (j + 1)) (j + 1) * x % 2147483647))] rfl ?_
    refine ar_top (w := .int (nI (fm + j))) (congrArg Value.int (nI_add fm j)) ?_
    refine ar_lald M_M_valueOf rfl hA (vp_in_nI (by omega) (by decide)) ?_
    rw [nI_clamp (n := (fm + j)) (by omega)]
    refine ar_go M_M_valueOf 1 _ 27 _ [some (.ref 56), some (.int (nI fm)), some (.int (dI k)), some (.long (lN x)), none, some (.long (lN (hvS (fun i => A (fm + i)) x (k - (j + 1)) (j + 1)))), none, some (.int (nI j))] _ [.long (lN (hvS (fun i => A (fm + i)) x (k - (j + 1)) (j + 1) * x % 2147483647) + lN (A (fm + j)))] rfl ?_
    refine ar_top (w := .long (lN ((hvS (fun i => A (fm + i)) x (k - (j + 1)) (j + 1) * x % 2147483647) + (A (fm + j))))) (congrArg Value.long (lN_add (hvS (fun i => A (fm + i)) x (k - (j + 1)) (j + 1) * x % 2147483647) (A (fm + j)))) ?_
    refine ar_go M_M_valueOf 1 _ 30 _ [some (.ref 56), some (.int (nI fm)), some (.int (dI k)), some (.long (lN x)), none, some (.long (lN (hvS (fun i => A (fm + i)) x (k - (j + 1)) (j + 1)))), none, some (.int (nI j))] _ [.long (lN 2147483647), .long (lN ((hvS (fun i => A (fm + i)) x (k - (j + 1)) (j + 1) * x % 2147483647) + (A (fm + j))))] rfl ?_
    refine ar_lrem M_M_valueOf rfl (by decide) ?_
    refine ar_top (w := .long (lN (((hvS (fun i => A (fm + i)) x (k - (j + 1)) (j + 1) * x % 2147483647) + (A (fm + j))) % 2147483647))) (congrArg Value.long (pk_lRem (by omega) (by decide) (by decide))) ?_
    rw [show (hvS (fun i => A (fm + i)) x (k - (j + 1)) (j + 1) * x % 2147483647 + A (fm + j)) % 2147483647 = hvS (fun i => A (fm + i)) x (k - j) j by rw [show k - j = k - (j + 1) + 1 by omega]; rfl]
    refine ar_go M_M_valueOf 1 _ 33 _ [some (.ref 56), some (.int (nI fm)), some (.int (dI k)), some (.long (lN x)), none, some (.long (lN (hvS (fun i => A (fm + i)) x (k - j) j))), none, some (.int (nI j))] _ [] rfl ?_
    refine ar_go M_M_valueOf 1 _ 36 _ [some (.ref 56), some (.int (nI fm)), some (.int (dI k)), some (.long (lN x)), none, some (.long (lN (hvS (fun i => A (fm + i)) x (k - j) j))), none, some (.int (nI j + Int32.ofInt (-1)))] _ [] rfl ?_
    rw [show nI j + Int32.ofInt (-1) = dI j from dI_pred j]
    refine ar_go M_M_valueOf 1 _ 6 _ [some (.ref 56), some (.int (nI fm)), some (.int (dI k)), some (.long (lN x)), none, some (.long (lN (hvS (fun i => A (fm + i)) x (k - j) j))), none, some (.int (dI j))] _ [] rfl ?_
    exact ih (by omega)
theorem c_M_valueOf (X : am_X) (d : Nat) (h : am_H) {s : Int64} {ud ld pr uD lD nd tn : Int32} {k x fm : Nat} {A : Nat → Nat} (h56 : isM0 h s ud ld pr uD lD nd tn) (hA : isLA h 64 612 A) (hl : ∀ j, j < k → A (fm + j) < 2147483647) (hk : k ≤ 17) (hfm : fm + k ≤ 612) (hx : x < 2147483648) : ar Pg X (d + 1) n_M_valueOf 0 [some (.ref 56), some (.int (nI fm)), some (.int (dI k)), some (.long (lN x)), none, none, none, none] [] h (fun rr h' => rr = some (.long (lN (hvS (fun i => A (fm + i)) x k 0))) ∧ h' = h) := by
  refine ar_go M_M_valueOf 4 _ 6 _ [some (.ref 56), some (.int (nI fm)), some (.int (dI k)), some (.long (lN x)), none, some (.long (lN 0)), none, some (.int (dI k))] _ [] rfl ?_
  have := c_M_vo_loop X d h h56 hA hl hk hfm hx k (Nat.le_refl _)
  rw [Nat.sub_self] at this
  exact this
theorem c_M_sent (X : am_X) (d : Nat) (h : am_H) {s : Int64} {ud ld pr uD lD nd tn : Int32} (h56 : isM0 h s ud ld pr uD lD nd tn) : ar Pg X d n_M_sent 0 [some (.ref 56)] [] h (fun rr h' => rr = some (.long s) ∧ h' = h) := by
  unfold isM0 at h56
  refine ar_go M_M_sent 1 _ 1 _ [some (.ref 56)] _ [.ref 56] rfl ?_
  refine ar_get M_M_sent rfl rfl h56 rfl ?_
  exact ar_R M_M_sent rfl rfl rfl rfl (⟨rfl, rfl⟩)
