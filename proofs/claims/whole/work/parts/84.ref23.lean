/-! The reference: checked -/
theorem c_M_ck_1 (X : am_X) (d : Nat) (h : am_H) {B : Nat → Bk} {s : Int64} {pr uD lD nd tn : Int32} {U W : Nat → Nat} {u l a b : Nat} (hu : u ≤ 16) (hl : l ≤ 16) (ha : a < 4) (hb : b < 4) (h56 : isM0 h s (nI u) (nI l) pr uD lD nd tn) (hB : isMb h B) (h62 : isLA h 62 17 U) (h63 : isLA h 63 17 W) (hU : lt17 U) (hW : lt17 W) {m : Nat} (hm : m ≤ 16) {F : Bool} {Q : Option Value → am_H → Prop} (K : ar Pg X (d + 1 + 1) n_M_checked 74 [some (.ref 56), some (.int (nI a)), some (.int (nI b)), some (.int (nI m)), some (.int (bi F)), some (.int (nI (m + 2))), none, none] [] h Q) : ∀ (n k : Nat) (g : Bool), k + n = m + 2 → (g && ftA U (u + 1) W (l + 1) (sq (B a)) (sq (B b)) n k) = F → ar Pg X (d + 1 + 1) n_M_checked 6 [some (.ref 56), some (.int (nI a)), some (.int (nI b)), some (.int (nI m)), some (.int (bi g)), some (.int (nI k)), none, none] [] h Q := by
  have h560 := h56
  have hB0 := hB
  obtain ⟨sz, nu, ve, gr, dr, ⟨h57, h58, h59, h60, h61⟩, hc0⟩ := hB
  unfold isM0 at h56
  intro n
  induction n with
  | zero =>
    intro k g hk hfin
    have hk2 : k = m + 2 := by omega
    subst hk2
    rw [ftA, Bool.and_true] at hfin
    subst hfin
    refine ar_go M_M_checked 4 _ 11 _ [some (.ref 56), some (.int (nI a)), some (.int (nI b)), some (.int (nI m)), some (.int (bi g)), some (.int (nI (m + 2))), none, none] _ [.int (nI m + nI 2), .int (nI (m + 2))] rfl ?_
    rw [nI_add m 2]
    refine ar_icmp M_M_checked rfl rfl (fun _ => K) (fun z => ?_)
    have z := c2_ge_f (a := m + 2) (b := m + 2) (by omega) (by omega) z
    omega
  | succ n ih =>
    intro k g hk hfin
    refine ar_go M_M_checked 4 _ 11 _ [some (.ref 56), some (.int (nI a)), some (.int (nI b)), some (.int (nI m)), some (.int (bi g)), some (.int (nI k)), none, none] _ [.int (nI m + nI 2), .int (nI k)] rfl ?_
    refine ar_top (w := .int (nI (m + 2))) (congrArg Value.int (nI_add m 2)) ?_
    refine ar_icmp M_M_checked rfl rfl (fun hc => ?_) (fun hc => ?_)
    · have hc := c2_ge_t (a := k) (b := (m + 2)) (by omega) (by omega) hc
      omega
    · have hc := c2_ge_f (a := k) (b := (m + 2)) (by omega) (by omega) hc
      refine ar_go M_M_checked 1 _ 16 _ [some (.ref 56), some (.int (nI a)), some (.int (nI b)), some (.int (nI m)), some (.int (bi g)), some (.int (nI k)), none, none] _ [.int (bi g)] rfl ?_
      refine ar_if M_M_checked rfl rfl (fun hc2 => ?_) (fun hc2 => ?_)
      · have hc2 := bi_eq_t hc2
        refine ar_go M_M_checked 1 _ 66 _ [some (.ref 56), some (.int (nI a)), some (.int (nI b)), some (.int (nI m)), some (.int (bi g)), some (.int (nI k)), none, none] _ [.int (nI 0)] rfl ?_
        refine ar_top (w := .int (bi false)) (congrArg Value.int rfl) ?_
        refine ar_go M_M_checked 1 _ 68 _ [some (.ref 56), some (.int (nI a)), some (.int (nI b)), some (.int (nI m)), some (.int (bi false)), some (.int (nI k)), none, none] _ [] rfl ?_
        refine ar_go M_M_checked 1 _ 71 _ [some (.ref 56), some (.int (nI a)), some (.int (nI b)), some (.int (nI m)), some (.int (bi false)), some (.int (nI k + Int32.ofInt 1)), none, none] _ [] rfl ?_
        rw [show nI k + Int32.ofInt 1 = nI (k + 1) from nI_add k 1]
        refine ar_go M_M_checked 1 _ 6 _ [some (.ref 56), some (.int (nI a)), some (.int (nI b)), some (.int (nI m)), some (.int (bi false)), some (.int (nI (k + 1))), none, none] _ [] rfl ?_
        exact ih (k + 1) false (by omega) (by rw [← hfin, hc2]; simp)
      · have hc2 := bi_eq_f hc2
        refine ar_go M_M_checked 2 _ 22 _ [some (.ref 56), some (.int (nI a)), some (.int (nI b)), some (.int (nI m)), some (.int (bi g)), some (.int (nI k)), none, none] _ [.int (nI k), .ref 56] rfl ?_
        refine ar_CS M_M_checked rfl rfl (Nat.le_of_ble_eq_true rfl) rfl rfl (Nat.le_of_ble_eq_true rfl) M_M_point (Nat.le_of_ble_eq_true rfl) (c_M_point X _ _ (k := k) (by omega)) (fun r1 h1 hq => ?_)
        obtain ⟨rfl, rfl⟩ := hq
        refine ⟨rfl, ?_⟩
        show ar Pg _ _ _ 25 [some (.ref 56), some (.int (nI a)), some (.int (nI b)), some (.int (nI m)), some (.int (bi g)), some (.int (nI k)), none, none] [.long (lN (1073741824 + k)), .ref 56] _ _
        refine ar_CV M_M_checked rfl rfl (Or.inl rfl) rfl rfl (Nat.le_of_ble_eq_true rfl) h56 M_M_upAt (Nat.le_of_ble_eq_true rfl) (c_M_upAt X d _ (k := u + 1) h560 h62 hU (by omega) (by omega)) (fun r1 h1 hq => ?_)
        obtain ⟨rfl, rfl⟩ := hq
        refine ⟨rfl, ?_⟩
        show ar Pg _ _ _ 28 [some (.ref 56), some (.int (nI a)), some (.int (nI b)), some (.int (nI m)), some (.int (bi g)), some (.int (nI k)), none, none] [.long (lN (hvS U (1073741824 + k) (u + 1) 0))] _ _
        refine ar_go M_M_checked 3 _ 32 _ [some (.ref 56), some (.int (nI a)), some (.int (nI b)), some (.int (nI m)), some (.int (bi g)), some (.int (nI k)), none, none] _ [.int (nI k), .int (nI b), .ref 56, .long (lN (hvS U (1073741824 + k) (u + 1) 0))] rfl ?_
        refine ar_CV M_M_checked rfl rfl (Or.inl rfl) rfl rfl (Nat.le_of_ble_eq_true rfl) h56 M_M_sampleOf (Nat.le_of_ble_eq_true rfl) (c_M_sampleOf X d _ h560 hB0 hb (k := k) (by omega)) (fun r1 h1 hq => ?_)
        obtain ⟨rfl, rfl⟩ := hq
        refine ⟨rfl, ?_⟩
        show ar Pg _ _ _ 35 [some (.ref 56), some (.int (nI a)), some (.int (nI b)), some (.int (nI m)), some (.int (bi g)), some (.int (nI k)), none, none] [.long (lN (sq (B b) k)), .long (lN (hvS U (1073741824 + k) (u + 1) 0))] _ _
        refine ar_CS M_M_checked rfl rfl (Nat.le_of_ble_eq_true rfl) rfl rfl (Nat.le_of_ble_eq_true rfl) M_M_mul (Nat.le_of_ble_eq_true rfl) (c_M_mul X _ _ (Nat.lt_trans (hvS_lt _ _ _ _) (by decide)) (Nat.lt_trans (smp_lt _ _ _) (by decide))) (fun r1 h1 hq => ?_)
        obtain ⟨rfl, rfl⟩ := hq
        refine ⟨rfl, ?_⟩
        show ar Pg _ _ _ 38 [some (.ref 56), some (.int (nI a)), some (.int (nI b)), some (.int (nI m)), some (.int (bi g)), some (.int (nI k)), none, none] [.long (lN (hvS U (1073741824 + k) (u + 1) 0 * sq (B b) k % 2147483647))] _ _
        refine ar_go M_M_checked 2 _ 41 _ [some (.ref 56), some (.int (nI a)), some (.int (nI b)), some (.int (nI m)), some (.int (bi g)), some (.int (nI k)), none, none] _ [.int (nI k), .ref 56, .long (lN (hvS U (1073741824 + k) (u + 1) 0 * sq (B b) k % 2147483647))] rfl ?_
        refine ar_CS M_M_checked rfl rfl (Nat.le_of_ble_eq_true rfl) rfl rfl (Nat.le_of_ble_eq_true rfl) M_M_point (Nat.le_of_ble_eq_true rfl) (c_M_point X _ _ (k := k) (by omega)) (fun r1 h1 hq => ?_)
        obtain ⟨rfl, rfl⟩ := hq
        refine ⟨rfl, ?_⟩
        show ar Pg _ _ _ 44 [some (.ref 56), some (.int (nI a)), some (.int (nI b)), some (.int (nI m)), some (.int (bi g)), some (.int (nI k)), none, none] [.long (lN (1073741824 + k)), .ref 56, .long (lN (hvS U (1073741824 + k) (u + 1) 0 * sq (B b) k % 2147483647))] _ _
        refine ar_CV M_M_checked rfl rfl (Or.inl rfl) rfl rfl (Nat.le_of_ble_eq_true rfl) h56 M_M_lowAt (Nat.le_of_ble_eq_true rfl) (c_M_lowAt X d _ (k := l + 1) h560 h63 hW (by omega) (by omega)) (fun r1 h1 hq => ?_)
        obtain ⟨rfl, rfl⟩ := hq
        refine ⟨rfl, ?_⟩
        show ar Pg _ _ _ 47 [some (.ref 56), some (.int (nI a)), some (.int (nI b)), some (.int (nI m)), some (.int (bi g)), some (.int (nI k)), none, none] [.long (lN (hvS W (1073741824 + k) (l + 1) 0)), .long (lN (hvS U (1073741824 + k) (u + 1) 0 * sq (B b) k % 2147483647))] _ _
        refine ar_go M_M_checked 3 _ 51 _ [some (.ref 56), some (.int (nI a)), some (.int (nI b)), some (.int (nI m)), some (.int (bi g)), some (.int (nI k)), none, none] _ [.int (nI k), .int (nI a), .ref 56, .long (lN (hvS W (1073741824 + k) (l + 1) 0)), .long (lN (hvS U (1073741824 + k) (u + 1) 0 * sq (B b) k % 2147483647))] rfl ?_
        refine ar_CV M_M_checked rfl rfl (Or.inl rfl) rfl rfl (Nat.le_of_ble_eq_true rfl) h56 M_M_sampleOf (Nat.le_of_ble_eq_true rfl) (c_M_sampleOf X d _ h560 hB0 ha (k := k) (by omega)) (fun r1 h1 hq => ?_)
        obtain ⟨rfl, rfl⟩ := hq
        refine ⟨rfl, ?_⟩
        show ar Pg _ _ _ 54 [some (.ref 56), some (.int (nI a)), some (.int (nI b)), some (.int (nI m)), some (.int (bi g)), some (.int (nI k)), none, none] [.long (lN (sq (B a) k)), .long (lN (hvS W (1073741824 + k) (l + 1) 0)), .long (lN (hvS U (1073741824 + k) (u + 1) 0 * sq (B b) k % 2147483647))] _ _
        refine ar_CS M_M_checked rfl rfl (Nat.le_of_ble_eq_true rfl) rfl rfl (Nat.le_of_ble_eq_true rfl) M_M_mul (Nat.le_of_ble_eq_true rfl) (c_M_mul X _ _ (Nat.lt_trans (hvS_lt _ _ _ _) (by decide)) (Nat.lt_trans (smp_lt _ _ _) (by decide))) (fun r1 h1 hq => ?_)
        obtain ⟨rfl, rfl⟩ := hq
        refine ⟨rfl, ?_⟩
        show ar Pg _ _ _ 57 [some (.ref 56), some (.int (nI a)), some (.int (nI b)), some (.int (nI m)), some (.int (bi g)), some (.int (nI k)), none, none] [.long (lN (hvS W (1073741824 + k) (l + 1) 0 * sq (B a) k % 2147483647)), .long (lN (hvS U (1073741824 + k) (u + 1) 0 * sq (B b) k % 2147483647))] _ _
        have q1 : hvS U (1073741824 + k) (u + 1) 0 * sq (B b) k % 2147483647 < 2147483647 := Nat.mod_lt _ (by decide)
        have q2 : hvS W (1073741824 + k) (l + 1) 0 * sq (B a) k % 2147483647 < 2147483647 := Nat.mod_lt _ (by decide)
        have hts : fts U (u + 1) W (l + 1) (sq (B a)) (sq (B b)) k = decide (hvS U (1073741824 + k) (u + 1) 0 * sq (B b) k % 2147483647 = hvS W (1073741824 + k) (l + 1) 0 * sq (B a) k % 2147483647) := rfl
        generalize hvS U (1073741824 + k) (u + 1) 0 * sq (B b) k % 2147483647 = y1 at *
        generalize hvS W (1073741824 + k) (l + 1) 0 * sq (B a) k % 2147483647 = y2 at *
        refine ar_go M_M_checked 1 _ 58 _ [some (.ref 56), some (.int (nI a)), some (.int (nI b)), some (.int (nI m)), some (.int (bi g)), some (.int (nI k)), none, none] _ [.int (lg_cmp (lN y1) (lN y2))] rfl ?_
        refine ar_top (w := .int (if y1 = y2 then 0 else if y2 < y1 then 1 else -1)) (congrArg Value.int (lcmpE (by omega) (by omega))) ?_
        by_cases he : y1 = y2
        · rw [if_pos he]
          refine ar_if M_M_checked rfl rfl (fun z => absurd z (by decide)) (fun _ => ?_)
          refine ar_go M_M_checked 2 _ 66 _ [some (.ref 56), some (.int (nI a)), some (.int (nI b)), some (.int (nI m)), some (.int (bi g)), some (.int (nI k)), none, none] _ [.int (nI 1)] rfl ?_
          refine ar_top (w := .int (bi true)) (congrArg Value.int rfl) ?_
          refine ar_go M_M_checked 1 _ 68 _ [some (.ref 56), some (.int (nI a)), some (.int (nI b)), some (.int (nI m)), some (.int (bi true)), some (.int (nI k)), none, none] _ [] rfl ?_
          refine ar_go M_M_checked 1 _ 71 _ [some (.ref 56), some (.int (nI a)), some (.int (nI b)), some (.int (nI m)), some (.int (bi true)), some (.int (nI k + Int32.ofInt 1)), none, none] _ [] rfl ?_
          rw [show nI k + Int32.ofInt 1 = nI (k + 1) from nI_add k 1]
          refine ar_go M_M_checked 1 _ 6 _ [some (.ref 56), some (.int (nI a)), some (.int (nI b)), some (.int (nI m)), some (.int (bi true)), some (.int (nI (k + 1))), none, none] _ [] rfl ?_
          exact ih (k + 1) true (by omega) (by rw [← hfin, hc2, ftA, if_pos (by rw [hts]; exact decide_eq_true he)])
        · rw [if_neg he]
          refine ar_if M_M_checked rfl rfl (fun _ => ?_) (fun z => absurd z (by split <;> decide))
          refine ar_go M_M_checked 1 _ 66 _ [some (.ref 56), some (.int (nI a)), some (.int (nI b)), some (.int (nI m)), some (.int (bi g)), some (.int (nI k)), none, none] _ [.int (nI 0)] rfl ?_
          refine ar_top (w := .int (bi false)) (congrArg Value.int rfl) ?_
          refine ar_go M_M_checked 1 _ 68 _ [some (.ref 56), some (.int (nI a)), some (.int (nI b)), some (.int (nI m)), some (.int (bi false)), some (.int (nI k)), none, none] _ [] rfl ?_
          refine ar_go M_M_checked 1 _ 71 _ [some (.ref 56), some (.int (nI a)), some (.int (nI b)), some (.int (nI m)), some (.int (bi false)), some (.int (nI k + Int32.ofInt 1)), none, none] _ [] rfl ?_
          rw [show nI k + Int32.ofInt 1 = nI (k + 1) from nI_add k 1]
          refine ar_go M_M_checked 1 _ 6 _ [some (.ref 56), some (.int (nI a)), some (.int (nI b)), some (.int (nI m)), some (.int (bi false)), some (.int (nI (k + 1))), none, none] _ [] rfl ?_
          exact ih (k + 1) false (by omega) (by rw [← hfin, hc2, ftA, if_neg (by rw [hts]; simpa using he)]; simp)
theorem c_M_ck_2 (X : am_X) (d : Nat) (h : am_H) {B : Nat → Bk} {s : Int64} {pr uD lD nd tn : Int32} {U W : Nat → Nat} {u l a b : Nat} (hu : u ≤ 16) (hl : l ≤ 16) (ha : a < 4) (hb : b < 4) (h56 : isM0 h s (nI u) (nI l) pr uD lD nd tn) (hB : isMb h B) (h62 : isLA h 62 17 U) (h63 : isLA h 63 17 W) (hU : lt17 U) (hW : lt17 W) {x3 : Option Value} {y4 : Int32} {Q : Option Value → am_H → Prop} (K : ar Pg X (d + 1 + 1) n_M_checked 131 [some (.ref 56), some (.int (nI a)), some (.int (nI b)), x3, some (.int y4), some (.int (nI ((fil (zrB (u + 1) U (B a)) (B a) (B a).length).length))), some (.int (nI (64 * a + (B a).length))), none] [] h Q) : ∀ (n i : Nat), (B a).length - i < n → i ≤ (B a).length → ar Pg X (d + 1 + 1) n_M_checked 83 [some (.ref 56), some (.int (nI a)), some (.int (nI b)), x3, some (.int y4), some (.int (nI ((fil (zrB (u + 1) U (B a)) (B a) i).length))), some (.int (nI (64 * a + i))), none] [] h Q := by
  have h560 := h56
  have hB0 := hB
  obtain ⟨sz, nu, ve, gr, dr, ⟨h57, h58, h59, h60, h61⟩, hc0⟩ := hB
  unfold isM0 at h56
  intro n
  induction n with
  | zero => intro i hi; omega
  | succ n ih =>
    intro i hi hil
    obtain ⟨hsz, ⟨hlen, hS, hV⟩, hfa⟩ := hc0 a ha
    have hfl := fil_len (zrB (u + 1) U (B a)) (B a) i
    refine ar_go M_M_checked 4 _ 89 _ [some (.ref 56), some (.int (nI a)), some (.int (nI b)), x3, some (.int y4), some (.int (nI ((fil (zrB (u + 1) U (B a)) (B a) i).length))), some (.int (nI (64 * a + i))), none] _ [.int (nI 64 * nI a), .int (nI (64 * a + i))] rfl ?_
    refine ar_top (w := .int (nI (64 * a))) (congrArg Value.int (pk_mul 64 a)) ?_
    refine ar_go M_M_checked 1 _ 90 _ [some (.ref 56), some (.int (nI a)), some (.int (nI b)), x3, some (.int y4), some (.int (nI ((fil (zrB (u + 1) U (B a)) (B a) i).length))), some (.int (nI (64 * a + i))), none] _ [.ref 56, .int (nI (64 * a)), .int (nI (64 * a + i))] rfl ?_
    refine ar_get M_M_checked rfl rfl h56 rfl ?_
    refine ar_go M_M_checked 1 _ 94 _ [some (.ref 56), some (.int (nI a)), some (.int (nI b)), x3, some (.int y4), some (.int (nI ((fil (zrB (u + 1) U (B a)) (B a) i).length))), some (.int (nI (64 * a + i))), none] _ [.int (nI a), .ref 57, .int (nI (64 * a)), .int (nI (64 * a + i))] rfl ?_
    refine ar_iald M_M_checked rfl (by unfold am_x0; omega) h57 (vp_in_nI (by omega) (by decide)) ?_
    rw [nI_clamp (n := a) (by omega)]
    refine ar_top (w := .int (nI ((B a).length))) (congrArg Value.int hsz) ?_
    refine ar_go M_M_checked 1 _ 96 _ [some (.ref 56), some (.int (nI a)), some (.int (nI b)), x3, some (.int y4), some (.int (nI ((fil (zrB (u + 1) U (B a)) (B a) i).length))), some (.int (nI (64 * a + i))), none] _ [.int (nI (64 * a) + nI ((B a).length)), .int (nI (64 * a + i))] rfl ?_
    refine ar_top (w := .int (nI ((64 * a) + ((B a).length)))) (congrArg Value.int (nI_add (64 * a) ((B a).length))) ?_
    refine ar_icmp M_M_checked rfl rfl (fun hc => ?_) (fun hc => ?_)
    · have hc := c2_ge_t (a := (64 * a + i)) (b := ((64 * a) + ((B a).length))) (by omega) (by omega) hc
      have hi2 : i = (B a).length := by omega
      subst hi2
      exact K
    · have hc := c2_ge_f (a := (64 * a + i)) (b := ((64 * a) + ((B a).length))) (by omega) (by omega) hc
      have hvi := hV i (by omega)
      refine ar_go M_M_checked 4 _ 105 _ [some (.ref 56), some (.int (nI a)), some (.int (nI b)), x3, some (.int y4), some (.int (nI ((fil (zrB (u + 1) U (B a)) (B a) i).length))), some (.int (nI (64 * a + i))), none] _ [.int (nI (64 * a + i)), .ref 56, .ref 56, .int (nI ((fil (zrB (u + 1) U (B a)) (B a) i).length))] rfl ?_
      refine ar_CV M_M_checked rfl rfl (Or.inl rfl) rfl rfl (Nat.le_of_ble_eq_true rfl) h56 M_M_wordAt (Nat.le_of_ble_eq_true rfl) (c_M_wordAt X _ _ h560 hB0 ha (i := i) (by omega)) (fun r1 h1 hq => ?_)
      obtain ⟨rfl, rfl⟩ := hq
      refine ⟨rfl, ?_⟩
      show ar Pg _ _ _ 108 [some (.ref 56), some (.int (nI a)), some (.int (nI b)), x3, some (.int y4), some (.int (nI ((fil (zrB (u + 1) U (B a)) (B a) i).length))), some (.int (nI (64 * a + i))), none] [.int (nI (wd (B a) i)), .ref 56, .int (nI ((fil (zrB (u + 1) U (B a)) (B a) i).length))] _ _
      refine ar_go M_M_checked 1 _ 109 _ [some (.ref 56), some (.int (nI a)), some (.int (nI b)), x3, some (.int y4), some (.int (nI ((fil (zrB (u + 1) U (B a)) (B a) i).length))), some (.int (nI (64 * a + i))), none] _ [.long ((nI (wd (B a) i)).toInt64), .ref 56, .int (nI ((fil (zrB (u + 1) U (B a)) (B a) i).length))] rfl ?_
      refine ar_top (w := .long (lN (wd (B a) i))) (congrArg Value.long (nI_l (by omega))) ?_
      refine ar_CV M_M_checked rfl rfl (Or.inl rfl) rfl rfl (Nat.le_of_ble_eq_true rfl) h56 M_M_upAt (Nat.le_of_ble_eq_true rfl) (c_M_upAt X d _ (k := u + 1) (x := wd (B a) i) h560 h62 hU (by omega) (by omega)) (fun r1 h1 hq => ?_)
      obtain ⟨rfl, rfl⟩ := hq
      refine ⟨rfl, ?_⟩
      show ar Pg _ _ _ 112 [some (.ref 56), some (.int (nI a)), some (.int (nI b)), x3, some (.int y4), some (.int (nI ((fil (zrB (u + 1) U (B a)) (B a) i).length))), some (.int (nI (64 * a + i))), none] [.long (lN (hvS U (wd (B a) i) (u + 1) 0)), .int (nI ((fil (zrB (u + 1) U (B a)) (B a) i).length))] _ _
      refine ar_go M_M_checked 2 _ 114 _ [some (.ref 56), some (.int (nI a)), some (.int (nI b)), x3, some (.int y4), some (.int (nI ((fil (zrB (u + 1) U (B a)) (B a) i).length))), some (.int (nI (64 * a + i))), none] _ [.int (lg_cmp (lN (hvS U (wd (B a) i) (u + 1) 0)) (lN 0)), .int (nI ((fil (zrB (u + 1) U (B a)) (B a) i).length))] rfl ?_
      refine ar_top (w := .int (if hvS U (wd (B a) i) (u + 1) 0 = 0 then 0 else 1)) (congrArg Value.int (lcmp0 (hvS_lt _ _ _ _))) ?_
      by_cases he : hvS U (wd (B a) i) (u + 1) 0 = 0
      · rw [if_pos he]
        refine ar_if M_M_checked rfl rfl (fun z => absurd z (by decide)) (fun _ => ?_)
        refine ar_go M_M_checked 3 _ 123 _ [some (.ref 56), some (.int (nI a)), some (.int (nI b)), x3, some (.int y4), some (.int (nI ((fil (zrB (u + 1) U (B a)) (B a) i).length))), some (.int (nI (64 * a + i))), none] _ [.int (nI ((fil (zrB (u + 1) U (B a)) (B a) i).length) + nI 1)] rfl ?_
        refine ar_top (w := .int (nI (((fil (zrB (u + 1) U (B a)) (B a) i).length) + 1))) (congrArg Value.int (nI_add ((fil (zrB (u + 1) U (B a)) (B a) i).length) 1)) ?_
        refine ar_go M_M_checked 1 _ 125 _ [some (.ref 56), some (.int (nI a)), some (.int (nI b)), x3, some (.int y4), some (.int (nI (((fil (zrB (u + 1) U (B a)) (B a) i).length) + 1))), some (.int (nI (64 * a + i))), none] _ [] rfl ?_
        refine ar_go M_M_checked 1 _ 128 _ [some (.ref 56), some (.int (nI a)), some (.int (nI b)), x3, some (.int y4), some (.int (nI (((fil (zrB (u + 1) U (B a)) (B a) i).length) + 1))), some (.int (nI (64 * a + i) + Int32.ofInt 1)), none] _ [] rfl ?_
        rw [show nI (64 * a + i) + Int32.ofInt 1 = nI ((64 * a + i) + 1) from nI_add (64 * a + i) 1]
        refine ar_go M_M_checked 1 _ 83 _ [some (.ref 56), some (.int (nI a)), some (.int (nI b)), x3, some (.int y4), some (.int (nI (((fil (zrB (u + 1) U (B a)) (B a) i).length) + 1))), some (.int (nI ((64 * a + i) + 1))), none] _ [] rfl ?_
        rw [show (fil (zrB (u + 1) U (B a)) (B a) i).length + 1 = (fil (zrB (u + 1) U (B a)) (B a) (i + 1)).length by rw [fil_t (P := zrB (u + 1) U (B a)) (decide_eq_true he), List.length_append, List.length_singleton], show 64 * a + i + 1 = 64 * a + (i + 1) from rfl]
        exact ih (i + 1) (by omega) (by omega)
      · rw [if_neg he]
        refine ar_if M_M_checked rfl rfl (fun _ => ?_) (fun z => absurd z (by decide))
        refine ar_go M_M_checked 2 _ 123 _ [some (.ref 56), some (.int (nI a)), some (.int (nI b)), x3, some (.int y4), some (.int (nI ((fil (zrB (u + 1) U (B a)) (B a) i).length))), some (.int (nI (64 * a + i))), none] _ [.int (nI ((fil (zrB (u + 1) U (B a)) (B a) i).length) + nI 0)] rfl ?_
        refine ar_top (w := .int (nI (((fil (zrB (u + 1) U (B a)) (B a) i).length) + 0))) (congrArg Value.int (nI_add ((fil (zrB (u + 1) U (B a)) (B a) i).length) 0)) ?_
        refine ar_go M_M_checked 1 _ 125 _ [some (.ref 56), some (.int (nI a)), some (.int (nI b)), x3, some (.int y4), some (.int (nI (((fil (zrB (u + 1) U (B a)) (B a) i).length) + 0))), some (.int (nI (64 * a + i))), none] _ [] rfl ?_
        refine ar_go M_M_checked 1 _ 128 _ [some (.ref 56), some (.int (nI a)), some (.int (nI b)), x3, some (.int y4), some (.int (nI (((fil (zrB (u + 1) U (B a)) (B a) i).length) + 0))), some (.int (nI (64 * a + i) + Int32.ofInt 1)), none] _ [] rfl ?_
        rw [show nI (64 * a + i) + Int32.ofInt 1 = nI ((64 * a + i) + 1) from nI_add (64 * a + i) 1]
        refine ar_go M_M_checked 1 _ 83 _ [some (.ref 56), some (.int (nI a)), some (.int (nI b)), x3, some (.int y4), some (.int (nI (((fil (zrB (u + 1) U (B a)) (B a) i).length) + 0))), some (.int (nI ((64 * a + i) + 1))), none] _ [] rfl ?_
        rw [show (fil (zrB (u + 1) U (B a)) (B a) i).length + 0 = (fil (zrB (u + 1) U (B a)) (B a) (i + 1)).length by rw [fil_f (P := zrB (u + 1) U (B a)) (decide_eq_false he)]; rfl, show 64 * a + i + 1 = 64 * a + (i + 1) from rfl]
        exact ih (i + 1) (by omega) (by omega)
theorem c_M_ck_3 (X : am_X) (d : Nat) (h : am_H) {B : Nat → Bk} {s : Int64} {pr uD lD nd tn : Int32} {U W : Nat → Nat} {u l a b : Nat} (hu : u ≤ 16) (hl : l ≤ 16) (ha : a < 4) (hb : b < 4) (h56 : isM0 h s (nI u) (nI l) pr uD lD nd tn) (hB : isMb h B) (h62 : isLA h 62 17 U) (h63 : isLA h 63 17 W) (hU : lt17 U) (hW : lt17 W) {x3 : Option Value} {y4 y5 : Int32} {Q : Option Value → am_H → Prop} (K : ar Pg X (d + 1 + 1) n_M_checked 188 [some (.ref 56), some (.int (nI a)), some (.int (nI b)), x3, some (.int y4), some (.int y5), some (.int (nI ((fil (zrB (l + 1) W (B b)) (B b) (B b).length).length))), some (.int (nI (64 * b + (B b).length)))] [] h Q) : ∀ (n i : Nat), (B b).length - i < n → i ≤ (B b).length → ar Pg X (d + 1 + 1) n_M_checked 140 [some (.ref 56), some (.int (nI a)), some (.int (nI b)), x3, some (.int y4), some (.int y5), some (.int (nI ((fil (zrB (l + 1) W (B b)) (B b) i).length))), some (.int (nI (64 * b + i)))] [] h Q := by
  have h560 := h56
  have hB0 := hB
  obtain ⟨sz, nu, ve, gr, dr, ⟨h57, h58, h59, h60, h61⟩, hc0⟩ := hB
  unfold isM0 at h56
  intro n
  induction n with
  | zero => intro i hi; omega
  | succ n ih =>
    intro i hi hil
    obtain ⟨hsz, ⟨hlen, hS, hV⟩, hfa⟩ := hc0 b hb
    have hfl := fil_len (zrB (l + 1) W (B b)) (B b) i
    refine ar_go M_M_checked 4 _ 146 _ [some (.ref 56), some (.int (nI a)), some (.int (nI b)), x3, some (.int y4), some (.int y5), some (.int (nI ((fil (zrB (l + 1) W (B b)) (B b) i).length))), some (.int (nI (64 * b + i)))] _ [.int (nI 64 * nI b), .int (nI (64 * b + i))] rfl ?_
    refine ar_top (w := .int (nI (64 * b))) (congrArg Value.int (pk_mul 64 b)) ?_
    refine ar_go M_M_checked 1 _ 147 _ [some (.ref 56), some (.int (nI a)), some (.int (nI b)), x3, some (.int y4), some (.int y5), some (.int (nI ((fil (zrB (l + 1) W (B b)) (B b) i).length))), some (.int (nI (64 * b + i)))] _ [.ref 56, .int (nI (64 * b)), .int (nI (64 * b + i))] rfl ?_
    refine ar_get M_M_checked rfl rfl h56 rfl ?_
    refine ar_go M_M_checked 1 _ 151 _ [some (.ref 56), some (.int (nI a)), some (.int (nI b)), x3, some (.int y4), some (.int y5), some (.int (nI ((fil (zrB (l + 1) W (B b)) (B b) i).length))), some (.int (nI (64 * b + i)))] _ [.int (nI b), .ref 57, .int (nI (64 * b)), .int (nI (64 * b + i))] rfl ?_
    refine ar_iald M_M_checked rfl (by unfold am_x0; omega) h57 (vp_in_nI (by omega) (by decide)) ?_
    rw [nI_clamp (n := b) (by omega)]
    refine ar_top (w := .int (nI ((B b).length))) (congrArg Value.int hsz) ?_
    refine ar_go M_M_checked 1 _ 153 _ [some (.ref 56), some (.int (nI a)), some (.int (nI b)), x3, some (.int y4), some (.int y5), some (.int (nI ((fil (zrB (l + 1) W (B b)) (B b) i).length))), some (.int (nI (64 * b + i)))] _ [.int (nI (64 * b) + nI ((B b).length)), .int (nI (64 * b + i))] rfl ?_
    refine ar_top (w := .int (nI ((64 * b) + ((B b).length)))) (congrArg Value.int (nI_add (64 * b) ((B b).length))) ?_
    refine ar_icmp M_M_checked rfl rfl (fun hc => ?_) (fun hc => ?_)
    · have hc := c2_ge_t (a := (64 * b + i)) (b := ((64 * b) + ((B b).length))) (by omega) (by omega) hc
      have hi2 : i = (B b).length := by omega
      subst hi2
      exact K
    · have hc := c2_ge_f (a := (64 * b + i)) (b := ((64 * b) + ((B b).length))) (by omega) (by omega) hc
      have hvi := hV i (by omega)
      refine ar_go M_M_checked 4 _ 162 _ [some (.ref 56), some (.int (nI a)), some (.int (nI b)), x3, some (.int y4), some (.int y5), some (.int (nI ((fil (zrB (l + 1) W (B b)) (B b) i).length))), some (.int (nI (64 * b + i)))] _ [.int (nI (64 * b + i)), .ref 56, .ref 56, .int (nI ((fil (zrB (l + 1) W (B b)) (B b) i).length))] rfl ?_
      refine ar_CV M_M_checked rfl rfl (Or.inl rfl) rfl rfl (Nat.le_of_ble_eq_true rfl) h56 M_M_wordAt (Nat.le_of_ble_eq_true rfl) (c_M_wordAt X _ _ h560 hB0 hb (i := i) (by omega)) (fun r1 h1 hq => ?_)
      obtain ⟨rfl, rfl⟩ := hq
      refine ⟨rfl, ?_⟩
      show ar Pg _ _ _ 165 [some (.ref 56), some (.int (nI a)), some (.int (nI b)), x3, some (.int y4), some (.int y5), some (.int (nI ((fil (zrB (l + 1) W (B b)) (B b) i).length))), some (.int (nI (64 * b + i)))] [.int (nI (wd (B b) i)), .ref 56, .int (nI ((fil (zrB (l + 1) W (B b)) (B b) i).length))] _ _
      refine ar_go M_M_checked 1 _ 166 _ [some (.ref 56), some (.int (nI a)), some (.int (nI b)), x3, some (.int y4), some (.int y5), some (.int (nI ((fil (zrB (l + 1) W (B b)) (B b) i).length))), some (.int (nI (64 * b + i)))] _ [.long ((nI (wd (B b) i)).toInt64), .ref 56, .int (nI ((fil (zrB (l + 1) W (B b)) (B b) i).length))] rfl ?_
      refine ar_top (w := .long (lN (wd (B b) i))) (congrArg Value.long (nI_l (by omega))) ?_
      refine ar_CV M_M_checked rfl rfl (Or.inl rfl) rfl rfl (Nat.le_of_ble_eq_true rfl) h56 M_M_lowAt (Nat.le_of_ble_eq_true rfl) (c_M_lowAt X d _ (k := l + 1) (x := wd (B b) i) h560 h63 hW (by omega) (by omega)) (fun r1 h1 hq => ?_)
      obtain ⟨rfl, rfl⟩ := hq
      refine ⟨rfl, ?_⟩
      show ar Pg _ _ _ 169 [some (.ref 56), some (.int (nI a)), some (.int (nI b)), x3, some (.int y4), some (.int y5), some (.int (nI ((fil (zrB (l + 1) W (B b)) (B b) i).length))), some (.int (nI (64 * b + i)))] [.long (lN (hvS W (wd (B b) i) (l + 1) 0)), .int (nI ((fil (zrB (l + 1) W (B b)) (B b) i).length))] _ _
      refine ar_go M_M_checked 2 _ 171 _ [some (.ref 56), some (.int (nI a)), some (.int (nI b)), x3, some (.int y4), some (.int y5), some (.int (nI ((fil (zrB (l + 1) W (B b)) (B b) i).length))), some (.int (nI (64 * b + i)))] _ [.int (lg_cmp (lN (hvS W (wd (B b) i) (l + 1) 0)) (lN 0)), .int (nI ((fil (zrB (l + 1) W (B b)) (B b) i).length))] rfl ?_
      refine ar_top (w := .int (if hvS W (wd (B b) i) (l + 1) 0 = 0 then 0 else 1)) (congrArg Value.int (lcmp0 (hvS_lt _ _ _ _))) ?_
      by_cases he : hvS W (wd (B b) i) (l + 1) 0 = 0
      · rw [if_pos he]
        refine ar_if M_M_checked rfl rfl (fun z => absurd z (by decide)) (fun _ => ?_)
        refine ar_go M_M_checked 3 _ 180 _ [some (.ref 56), some (.int (nI a)), some (.int (nI b)), x3, some (.int y4), some (.int y5), some (.int (nI ((fil (zrB (l + 1) W (B b)) (B b) i).length))), some (.int (nI (64 * b + i)))] _ [.int (nI ((fil (zrB (l + 1) W (B b)) (B b) i).length) + nI 1)] rfl ?_
        refine ar_top (w := .int (nI (((fil (zrB (l + 1) W (B b)) (B b) i).length) + 1))) (congrArg Value.int (nI_add ((fil (zrB (l + 1) W (B b)) (B b) i).length) 1)) ?_
        refine ar_go M_M_checked 1 _ 182 _ [some (.ref 56), some (.int (nI a)), some (.int (nI b)), x3, some (.int y4), some (.int y5), some (.int (nI (((fil (zrB (l + 1) W (B b)) (B b) i).length) + 1))), some (.int (nI (64 * b + i)))] _ [] rfl ?_
        refine ar_go M_M_checked 1 _ 185 _ [some (.ref 56), some (.int (nI a)), some (.int (nI b)), x3, some (.int y4), some (.int y5), some (.int (nI (((fil (zrB (l + 1) W (B b)) (B b) i).length) + 1))), some (.int (nI (64 * b + i) + Int32.ofInt 1))] _ [] rfl ?_
        rw [show nI (64 * b + i) + Int32.ofInt 1 = nI ((64 * b + i) + 1) from nI_add (64 * b + i) 1]
        refine ar_go M_M_checked 1 _ 140 _ [some (.ref 56), some (.int (nI a)), some (.int (nI b)), x3, some (.int y4), some (.int y5), some (.int (nI (((fil (zrB (l + 1) W (B b)) (B b) i).length) + 1))), some (.int (nI ((64 * b + i) + 1)))] _ [] rfl ?_
        rw [show (fil (zrB (l + 1) W (B b)) (B b) i).length + 1 = (fil (zrB (l + 1) W (B b)) (B b) (i + 1)).length by rw [fil_t (P := zrB (l + 1) W (B b)) (decide_eq_true he), List.length_append, List.length_singleton], show 64 * b + i + 1 = 64 * b + (i + 1) from rfl]
        exact ih (i + 1) (by omega) (by omega)
      · rw [if_neg he]
        refine ar_if M_M_checked rfl rfl (fun _ => ?_) (fun z => absurd z (by decide))
        refine ar_go M_M_checked 2 _ 180 _ [some (.ref 56), some (.int (nI a)), some (.int (nI b)), x3, some (.int y4), some (.int y5), some (.int (nI ((fil (zrB (l + 1) W (B b)) (B b) i).length))), some (.int (nI (64 * b + i)))] _ [.int (nI ((fil (zrB (l + 1) W (B b)) (B b) i).length) + nI 0)] rfl ?_
        refine ar_top (w := .int (nI (((fil (zrB (l + 1) W (B b)) (B b) i).length) + 0))) (congrArg Value.int (nI_add ((fil (zrB (l + 1) W (B b)) (B b) i).length) 0)) ?_
        refine ar_go M_M_checked 1 _ 182 _ [some (.ref 56), some (.int (nI a)), some (.int (nI b)), x3, some (.int y4), some (.int y5), some (.int (nI (((fil (zrB (l + 1) W (B b)) (B b) i).length) + 0))), some (.int (nI (64 * b + i)))] _ [] rfl ?_
        refine ar_go M_M_checked 1 _ 185 _ [some (.ref 56), some (.int (nI a)), some (.int (nI b)), x3, some (.int y4), some (.int y5), some (.int (nI (((fil (zrB (l + 1) W (B b)) (B b) i).length) + 0))), some (.int (nI (64 * b + i) + Int32.ofInt 1))] _ [] rfl ?_
        rw [show nI (64 * b + i) + Int32.ofInt 1 = nI ((64 * b + i) + 1) from nI_add (64 * b + i) 1]
        refine ar_go M_M_checked 1 _ 140 _ [some (.ref 56), some (.int (nI a)), some (.int (nI b)), x3, some (.int y4), some (.int y5), some (.int (nI (((fil (zrB (l + 1) W (B b)) (B b) i).length) + 0))), some (.int (nI ((64 * b + i) + 1)))] _ [] rfl ?_
        rw [show (fil (zrB (l + 1) W (B b)) (B b) i).length + 0 = (fil (zrB (l + 1) W (B b)) (B b) (i + 1)).length by rw [fil_f (P := zrB (l + 1) W (B b)) (decide_eq_false he)]; rfl, show 64 * b + i + 1 = 64 * b + (i + 1) from rfl]
        exact ih (i + 1) (by omega) (by omega)
theorem c_M_checked (X : am_X) (d : Nat) (h : am_H) {B : Nat → Bk} {s : Int64} {pr uD lD nd tn : Int32} {U W : Nat → Nat} {u l a b : Nat} (hu : u ≤ 16) (hl : l ≤ 16) (ha : a < 4) (hb : b < 4) (h56 : isM0 h s (nI u) (nI l) pr uD lD nd tn) (hB : isMb h B) (h62 : isLA h 62 17 U) (h63 : isLA h 63 17 W) (hU : lt17 U) (hW : lt17 W) {m : Nat} (hm : m ≤ 16) : ar Pg X (d + 1 + 1) n_M_checked 0 [some (.ref 56), some (.int (nI a)), some (.int (nI b)), some (.int (nI m)), none, none, none, none] [] h (fun rr h' => rr = some (.int (bi (ckB m (B a) (B b) u U l W))) ∧ h' = h) := by
  have h560 := h56
  have hB0 := hB
  obtain ⟨sz, nu, ve, gr, dr, ⟨h57, h58, h59, h60, h61⟩, hc0⟩ := hB
  unfold isM0 at h56
  obtain ⟨hsa, ⟨hla, hSa, hVa⟩, hfaa⟩ := hc0 a ha
  obtain ⟨hsb, ⟨hlb, hSb, hVb⟩, hfab⟩ := hc0 b hb
  refine ar_go M_M_checked 1 _ 1 _ [some (.ref 56), some (.int (nI a)), some (.int (nI b)), some (.int (nI m)), none, none, none, none] _ [.int (nI 1)] rfl ?_
  refine ar_top (w := .int (bi true)) (congrArg Value.int rfl) ?_
  refine ar_go M_M_checked 3 _ 6 _ [some (.ref 56), some (.int (nI a)), some (.int (nI b)), some (.int (nI m)), some (.int (bi true)), some (.int (nI 0)), none, none] _ [] rfl ?_
  refine c_M_ck_1 X d h hu hl ha hb h560 hB0 h62 h63 hU hW hm (F := ftA U (u + 1) W (l + 1) (sq (B a)) (sq (B b)) (m + 2) 0) ?_ (m + 2) 0 true (by omega) (Bool.true_and _)
  generalize hFg : ftA U (u + 1) W (l + 1) (sq (B a)) (sq (B b)) (m + 2) 0 = F
  refine ar_go M_M_checked 5 _ 81 _ [some (.ref 56), some (.int (nI a)), some (.int (nI b)), some (.int (nI m)), some (.int (bi F)), some (.int (nI 0)), none, none] _ [.int (nI 64 * nI a)] rfl ?_
  refine ar_top (w := .int (nI (64 * a))) (congrArg Value.int (pk_mul 64 a)) ?_
  refine ar_go M_M_checked 1 _ 83 _ [some (.ref 56), some (.int (nI a)), some (.int (nI b)), some (.int (nI m)), some (.int (bi F)), some (.int (nI 0)), some (.int (nI (64 * a))), none] _ [] rfl ?_
  refine c_M_ck_2 X d h hu hl ha hb h560 hB0 h62 h63 hU hW ?_ ((B a).length + 1) 0 (by omega) (by omega)
  show ar Pg _ _ _ 131 [some (.ref 56), some (.int (nI a)), some (.int (nI b)), some (.int (nI m)), some (.int (bi F)), some (.int (nI ((zr (B a) u U).length))), some (.int (nI (64 * a + (B a).length))), none] [] _ _
  refine ar_go M_M_checked 5 _ 138 _ [some (.ref 56), some (.int (nI a)), some (.int (nI b)), some (.int (nI m)), some (.int (bi F)), some (.int (nI ((zr (B a) u U).length))), some (.int (nI 0)), none] _ [.int (nI 64 * nI b)] rfl ?_
  refine ar_top (w := .int (nI (64 * b))) (congrArg Value.int (pk_mul 64 b)) ?_
  refine ar_go M_M_checked 1 _ 140 _ [some (.ref 56), some (.int (nI a)), some (.int (nI b)), some (.int (nI m)), some (.int (bi F)), some (.int (nI ((zr (B a) u U).length))), some (.int (nI 0)), some (.int (nI (64 * b)))] _ [] rfl ?_
  refine c_M_ck_3 X d h hu hl ha hb h560 hB0 h62 h63 hU hW ?_ ((B b).length + 1) 0 (by omega) (by omega)
  show ar Pg _ _ _ 188 [some (.ref 56), some (.int (nI a)), some (.int (nI b)), some (.int (nI m)), some (.int (bi F)), some (.int (nI ((zr (B a) u U).length))), some (.int (nI ((zr (B b) l W).length))), some (.int (nI (64 * b + (B b).length)))] [] _ _
  have hza : (zr (B a) u U).length ≤ 64 := Nat.le_trans (fil_len _ _ _) hla
  have hzb : (zr (B b) l W).length ≤ 64 := Nat.le_trans (fil_len _ _ _) hlb
  generalize hZ1 : (zr (B a) u U).length = Z1 at *
  generalize hZ2 : (zr (B b) l W).length = Z2 at *
  refine ar_go M_M_checked 1 _ 190 _ [some (.ref 56), some (.int (nI a)), some (.int (nI b)), some (.int (nI m)), some (.int (bi F)), some (.int (nI Z1)), some (.int (nI Z2)), some (.int (nI (64 * b + (B b).length)))] _ [.int (bi F)] rfl ?_
  refine ar_if M_M_checked rfl rfl (fun hc1 => ?_) (fun hc1 => ?_)
  · have hc1 := bi_eq_t hc1
    refine ar_go M_M_checked 1 _ 216 _ [some (.ref 56), some (.int (nI a)), some (.int (nI b)), some (.int (nI m)), some (.int (bi F)), some (.int (nI Z1)), some (.int (nI Z2)), some (.int (nI (64 * b + (B b).length)))] _ [.int (nI 0)] rfl ?_
    have hck : ckB m (B a) (B b) u U l W = false := by rw [ckB, hZ1, hZ2, hFg, hc1]; simp
    exact ar_zret M_M_checked rfl rfl (Or.inl rfl) (⟨by rw [hck]; rfl, rfl⟩)
  · have hc1 := bi_eq_f hc1
    refine ar_go M_M_checked 2 _ 196 _ [some (.ref 56), some (.int (nI a)), some (.int (nI b)), some (.int (nI m)), some (.int (bi F)), some (.int (nI Z1)), some (.int (nI Z2)), some (.int (nI (64 * b + (B b).length)))] _ [.ref 56, .int (nI Z1)] rfl ?_
    refine ar_get M_M_checked rfl rfl h56 rfl ?_
    refine ar_icmp M_M_checked rfl rfl (fun hc2 => ?_) (fun hc2 => ?_)
    · have hc2 := c2_ne_t (a := Z1) (b := u) (by omega) (by omega) hc2
      refine ar_go M_M_checked 1 _ 216 _ [some (.ref 56), some (.int (nI a)), some (.int (nI b)), some (.int (nI m)), some (.int (bi F)), some (.int (nI Z1)), some (.int (nI Z2)), some (.int (nI (64 * b + (B b).length)))] _ [.int (nI 0)] rfl ?_
      have hck : ckB m (B a) (B b) u U l W = false := by rw [ckB, hZ1, hZ2, hFg, decide_eq_false hc2]; simp
      exact ar_zret M_M_checked rfl rfl (Or.inl rfl) (⟨by rw [hck]; rfl, rfl⟩)
    · have hc2 := c2_ne_f (a := Z1) (b := u) (by omega) (by omega) hc2
      refine ar_go M_M_checked 2 _ 205 _ [some (.ref 56), some (.int (nI a)), some (.int (nI b)), some (.int (nI m)), some (.int (bi F)), some (.int (nI Z1)), some (.int (nI Z2)), some (.int (nI (64 * b + (B b).length)))] _ [.ref 56, .int (nI Z2)] rfl ?_
      refine ar_get M_M_checked rfl rfl h56 rfl ?_
      refine ar_icmp M_M_checked rfl rfl (fun hc3 => ?_) (fun hc3 => ?_)
      · have hc3 := c2_ne_t (a := Z2) (b := l) (by omega) (by omega) hc3
        refine ar_go M_M_checked 1 _ 216 _ [some (.ref 56), some (.int (nI a)), some (.int (nI b)), some (.int (nI m)), some (.int (bi F)), some (.int (nI Z1)), some (.int (nI Z2)), some (.int (nI (64 * b + (B b).length)))] _ [.int (nI 0)] rfl ?_
        have hck : ckB m (B a) (B b) u U l W = false := by rw [ckB, hZ1, hZ2, hFg, decide_eq_false hc3]; simp
        exact ar_zret M_M_checked rfl rfl (Or.inl rfl) (⟨by rw [hck]; rfl, rfl⟩)
      · have hc3 := c2_ne_f (a := Z2) (b := l) (by omega) (by omega) hc3
        refine ar_go M_M_checked 2 _ 216 _ [some (.ref 56), some (.int (nI a)), some (.int (nI b)), some (.int (nI m)), some (.int (bi F)), some (.int (nI Z1)), some (.int (nI Z2)), some (.int (nI (64 * b + (B b).length)))] _ [.int (nI 1)] rfl ?_
        have hck : ckB m (B a) (B b) u U l W = true := by rw [ckB, hZ1, hZ2, hFg, hc1, decide_eq_true hc2, decide_eq_true hc3]; rfl
        exact ar_zret M_M_checked rfl rfl (Or.inr rfl) (⟨by rw [hck]; rfl, rfl⟩)
