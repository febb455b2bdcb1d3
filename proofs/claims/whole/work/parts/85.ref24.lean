/-! The reference: exchanged -/
def isMw (h : am_H) : Prop := (∃ A, isLA h 64 612 A ∧ ltS A) ∧ (∃ V, isLA h 65 18 V ∧ ∀ r, r < 18 → V r < 2147483648) ∧ (∃ A, isLA h 66 17 A ∧ lt17 A) ∧ (∃ A, isLA h 67 17 A ∧ lt17 A) ∧ (∃ A, isLA h 68 17 A ∧ lt17 A) ∧ (∃ A, isLA h 69 17 A ∧ lt17 A) ∧ ∃ A, isLA h 70 17 A ∧ lt17 A
theorem isMw.mv {h h1 : am_H} {l : List Nat} (H : isMw h) (hf : fr l h h1) (hl : ∀ k, 64 ≤ k → k < 71 → k ∉ l) : isMw h1 := by
  obtain ⟨⟨A1, a1, b1⟩, ⟨A2, a2, b2⟩, ⟨A3, a3, b3⟩, ⟨A4, a4, b4⟩, ⟨A5, a5, b5⟩, ⟨A6, a6, b6⟩, ⟨A7, a7, b7⟩⟩ := H
  exact ⟨⟨A1, hf.at a1 (hl _ (by omega) (by omega)), b1⟩, ⟨A2, hf.at a2 (hl _ (by omega) (by omega)), b2⟩, ⟨A3, hf.at a3 (hl _ (by omega) (by omega)), b3⟩, ⟨A4, hf.at a4 (hl _ (by omega) (by omega)), b4⟩, ⟨A5, hf.at a5 (hl _ (by omega) (by omega)), b5⟩, ⟨A6, hf.at a6 (hl _ (by omega) (by omega)), b6⟩, ⟨A7, hf.at a7 (hl _ (by omega) (by omega)), b7⟩⟩
def isMp (h : am_H) (u : Nat) (U : Nat → Nat) (l : Nat) (W : Nat → Nat) : Prop := u ≤ 16 ∧ l ≤ 16 ∧ ∃ U1 W1, isLA h 62 17 U1 ∧ lt17 U1 ∧ isLA h 63 17 W1 ∧ lt17 W1 ∧ (∀ i, i ≤ u → U1 i = U i) ∧ ∀ i, i ≤ l → W1 i = W i
theorem isMp.mv {h h1 : am_H} {u l : Nat} {U W : Nat → Nat} {s : List Nat} (H : isMp h u U l W) (hf : fr s h h1) (h62 : 62 ∉ s) (h63 : 63 ∉ s) : isMp h1 u U l W := by
  obtain ⟨a, b, U1, W1, c, d, e, f, g, k⟩ := H
  exact ⟨a, b, U1, W1, hf.at c h62, d, hf.at e h63, f, g, k⟩
def isMS (h : am_H) (S : Sg) : Prop := (∃ pr uD lD nd tn, isM0 h S.2.1 (nI S.2.2.1) (nI S.2.2.2.2.1) pr uD lD nd tn) ∧ isMb h S.1 ∧ (∃ T, isT h T) ∧ isMw h ∧ isMp h S.2.2.1 S.2.2.2.1 S.2.2.2.2.1 S.2.2.2.2.2
def mLs : List Nat := List.range' 56 20
theorem mem_mLs {k : Nat} : k ∈ mLs ↔ 56 ≤ k ∧ k < 76 := by
  unfold mLs
  rw [List.mem_range'_1]
theorem mL_of {l : List Nat} (h : ∀ k ∈ l, 56 ≤ k ∧ k < 76) : ∀ k ∈ l, k ∈ mLs := fun k hk => mem_mLs.mpr (h k hk)
theorem c_M_ex_1 (X : am_X) (d : Nat) (h : am_H) {B : Nat → Bk} {T : Tk} {s : Int64} {pr uD lD nd : Int32} {U : Nat → Nat} {u l a b : Nat} {x3 x4 : Option Value} {y5 : Int32} (hu6 : u ≤ 16) (ha : a < 4) (hb : b < 4) (hB : isMb h B) (hTl : T.length ≤ 64) (h62 : isLA h 62 17 U) (hU : lt17 U) {Q : Option Value → am_H → Prop} (K : ∀ h1 : am_H, isT h1 (T ++ nwZ B (zrB (u + 1) U (B a)) b a (B a).length) → isM0 h1 s (nI u) (nI l) pr uD lD nd (nI (T ++ nwZ B (zrB (u + 1) U (B a)) b a (B a).length).length) → fr [56, 71, 72, 73, 74, 75] h h1 → ar Pg X (d + 1 + 1) n_M_exchanged 191 [some (.ref 56), some (.int (nI a)), some (.int (nI b)), x3, x4, some (.int y5), some (.int (nI (64 * a + (B a).length)))] [] h1 Q) : ∀ (n i : Nat) (h1 : am_H), (B a).length - i < n → i ≤ (B a).length → isT h1 (T ++ nwZ B (zrB (u + 1) U (B a)) b a i) → isM0 h1 s (nI u) (nI l) pr uD lD nd (nI (T ++ nwZ B (zrB (u + 1) U (B a)) b a i).length) → fr [56, 71, 72, 73, 74, 75] h h1 → ar Pg X (d + 1 + 1) n_M_exchanged 145 [some (.ref 56), some (.int (nI a)), some (.int (nI b)), x3, x4, some (.int y5), some (.int (nI (64 * a + i)))] [] h1 Q := by
  intro n
  induction n with
  | zero => intro i h1 hi; omega
  | succ n ih =>
    intro i h1 hi hil hTi h56 hF
    have hB1 := hB.mv hF (fun k _ _ => by simp; omega)
    have hB2 := hB1
    obtain ⟨sz, nu, ve, gr, dr, ⟨h57, h58, h59, h60, h61⟩, hc0⟩ := hB2
    have h62 : isLA h1 62 17 U := hF.at h62 (by simp)
    have h560 := h56
    unfold isM0 at h56
    obtain ⟨hsz, ⟨hlen, hS, hV⟩, hfa⟩ := hc0 a ha
    have hnl := nwZ_len B (zrB (u + 1) U (B a)) b a i
    refine ar_go M_M_exchanged 4 _ 151 _ [some (.ref 56), some (.int (nI a)), some (.int (nI b)), x3, x4, some (.int y5), some (.int (nI (64 * a + i)))] _ [.int (nI 64 * nI a), .int (nI (64 * a + i))] rfl ?_
    refine ar_top (w := .int (nI (64 * a))) (congrArg Value.int (pk_mul 64 a)) ?_
    refine ar_go M_M_exchanged 1 _ 152 _ [some (.ref 56), some (.int (nI a)), some (.int (nI b)), x3, x4, some (.int y5), some (.int (nI (64 * a + i)))] _ [.ref 56, .int (nI (64 * a)), .int (nI (64 * a + i))] rfl ?_
    refine ar_get M_M_exchanged rfl rfl h56 rfl ?_
    refine ar_go M_M_exchanged 1 _ 156 _ [some (.ref 56), some (.int (nI a)), some (.int (nI b)), x3, x4, some (.int y5), some (.int (nI (64 * a + i)))] _ [.int (nI a), .ref 57, .int (nI (64 * a)), .int (nI (64 * a + i))] rfl ?_
    refine ar_iald M_M_exchanged rfl (by unfold am_x0; omega) h57 (vp_in_nI (by omega) (by decide)) ?_
    rw [nI_clamp (n := a) (by omega)]
    refine ar_top (w := .int (nI ((B a).length))) (congrArg Value.int hsz) ?_
    refine ar_go M_M_exchanged 1 _ 158 _ [some (.ref 56), some (.int (nI a)), some (.int (nI b)), x3, x4, some (.int y5), some (.int (nI (64 * a + i)))] _ [.int (nI (64 * a) + nI ((B a).length)), .int (nI (64 * a + i))] rfl ?_
    refine ar_top (w := .int (nI ((64 * a) + ((B a).length)))) (congrArg Value.int (nI_add (64 * a) ((B a).length))) ?_
    refine ar_icmp M_M_exchanged rfl rfl (fun hc => ?_) (fun hc => ?_)
    · have hc := c2_ge_t (a := (64 * a + i)) (b := ((64 * a) + ((B a).length))) (by omega) (by omega) hc
      have hi2 : i = (B a).length := by omega
      subst hi2
      exact K h1 hTi h560 hF
    · have hc := c2_ge_f (a := (64 * a + i)) (b := ((64 * a) + ((B a).length))) (by omega) (by omega) hc
      have hvi := hV i (by omega)
      refine ar_go M_M_exchanged 3 _ 165 _ [some (.ref 56), some (.int (nI a)), some (.int (nI b)), x3, x4, some (.int y5), some (.int (nI (64 * a + i)))] _ [.int (nI (64 * a + i)), .ref 56, .ref 56] rfl ?_
      refine ar_CV M_M_exchanged rfl rfl (Or.inl rfl) rfl rfl (Nat.le_of_ble_eq_true rfl) h56 M_M_wordAt (Nat.le_of_ble_eq_true rfl) (c_M_wordAt X _ _ h560 hB1 ha (i := i) (by omega)) (fun r1 h1 hq => ?_)
      obtain ⟨rfl, rfl⟩ := hq
      refine ⟨rfl, ?_⟩
      show ar Pg _ _ _ 168 [some (.ref 56), some (.int (nI a)), some (.int (nI b)), x3, x4, some (.int y5), some (.int (nI (64 * a + i)))] [.int (nI (wd (B a) i)), .ref 56] _ _
      refine ar_go M_M_exchanged 1 _ 169 _ [some (.ref 56), some (.int (nI a)), some (.int (nI b)), x3, x4, some (.int y5), some (.int (nI (64 * a + i)))] _ [.long ((nI (wd (B a) i)).toInt64), .ref 56] rfl ?_
      refine ar_top (w := .long (lN (wd (B a) i))) (congrArg Value.long (nI_l (by omega))) ?_
      refine ar_CV M_M_exchanged rfl rfl (Or.inl rfl) rfl rfl (Nat.le_of_ble_eq_true rfl) h56 M_M_upAt (Nat.le_of_ble_eq_true rfl) (c_M_upAt X d _ (k := u + 1) (x := wd (B a) i) h560 h62 hU (by omega) (by omega)) (fun r1 h1 hq => ?_)
      obtain ⟨rfl, rfl⟩ := hq
      refine ⟨rfl, ?_⟩
      show ar Pg _ _ _ 172 [some (.ref 56), some (.int (nI a)), some (.int (nI b)), x3, x4, some (.int y5), some (.int (nI (64 * a + i)))] [.long (lN (hvS U (wd (B a) i) (u + 1) 0))] _ _
      refine ar_go M_M_exchanged 2 _ 174 _ [some (.ref 56), some (.int (nI a)), some (.int (nI b)), x3, x4, some (.int y5), some (.int (nI (64 * a + i)))] _ [.int (lg_cmp (lN (hvS U (wd (B a) i) (u + 1) 0)) (lN 0))] rfl ?_
      refine ar_top (w := .int (if hvS U (wd (B a) i) (u + 1) 0 = 0 then 0 else 1)) (congrArg Value.int (lcmp0 (hvS_lt _ _ _ _))) ?_
      by_cases he : hvS U (wd (B a) i) (u + 1) 0 = 0
      · rw [if_pos he]
        refine ar_if M_M_exchanged rfl rfl (fun z => absurd z (by decide)) (fun _ => ?_)
        have hP : zrB (u + 1) U (B a) i = true := decide_eq_true he
        refine ar_go M_M_exchanged 3 _ 181 _ [some (.ref 56), some (.int (nI a)), some (.int (nI b)), x3, x4, some (.int y5), some (.int (nI (64 * a + i)))] _ [.int (nI (64 * a + i)), .int (nI b), .ref 56] rfl ?_
        refine ar_CV M_M_exchanged rfl rfl (Or.inl rfl) rfl rfl (Nat.le_of_ble_eq_true rfl) h56 M_M_offer (Nat.le_of_ble_eq_true rfl) (c_M_offer X d _ h560 hB1 hTi hb ha (i := i) (by omega) (by rw [List.length_append]; omega)) (fun r1 h2 hq => ?_)
        obtain ⟨⟨v1, rfl⟩, hf, hm, hT2⟩ := hq
        refine ⟨hf.1, ?_⟩
        show ar Pg _ _ _ 184 [some (.ref 56), some (.int (nI a)), some (.int (nI b)), x3, x4, some (.int y5), some (.int (nI (64 * a + i)))] [.int v1] _ _
        refine ar_go M_M_exchanged 1 _ 185 _ [some (.ref 56), some (.int (nI a)), some (.int (nI b)), x3, x4, some (.int y5), some (.int (nI (64 * a + i)))] _ [] rfl ?_
        refine ar_go M_M_exchanged 1 _ 188 _ [some (.ref 56), some (.int (nI a)), some (.int (nI b)), x3, x4, some (.int y5), some (.int (nI (64 * a + i) + Int32.ofInt 1))] _ [] rfl ?_
        rw [show nI (64 * a + i) + Int32.ofInt 1 = nI ((64 * a + i) + 1) from nI_add (64 * a + i) 1]
        refine ar_go M_M_exchanged 1 _ 145 _ [some (.ref 56), some (.int (nI a)), some (.int (nI b)), x3, x4, some (.int y5), some (.int (nI ((64 * a + i) + 1)))] _ [] rfl ?_
        rw [nwZ_t T B _ _ hP] at hm hT2
        exact ih (i + 1) h2 (by omega) (by omega) hT2 hm (hF.tr hf (fun _ z => z) (fun _ z => z))
      · rw [if_neg he]
        refine ar_if M_M_exchanged rfl rfl (fun _ => ?_) (fun z => absurd z (by decide))
        have hP : ¬ zrB (u + 1) U (B a) i = true := by simpa [zrB] using he
        refine ar_go M_M_exchanged 1 _ 188 _ [some (.ref 56), some (.int (nI a)), some (.int (nI b)), x3, x4, some (.int y5), some (.int (nI (64 * a + i) + Int32.ofInt 1))] _ [] rfl ?_
        rw [show nI (64 * a + i) + Int32.ofInt 1 = nI ((64 * a + i) + 1) from nI_add (64 * a + i) 1]
        refine ar_go M_M_exchanged 1 _ 145 _ [some (.ref 56), some (.int (nI a)), some (.int (nI b)), x3, x4, some (.int y5), some (.int (nI ((64 * a + i) + 1)))] _ [] rfl ?_
        rw [← nwZ_f B _ _ hP] at h560 hTi
        exact ih (i + 1) h1 (by omega) (by omega) hTi h560 hF
theorem c_M_ex_2 (X : am_X) (d : Nat) (h : am_H) {B : Nat → Bk} {T : Tk} {s : Int64} {pr uD lD nd : Int32} {W : Nat → Nat} {u l b a : Nat} {x3 x4 : Option Value} {y5 : Int32} (hl6 : l ≤ 16) (hb : b < 4) (ha : a < 4) (hB : isMb h B) (hTl : T.length ≤ 64) (h63 : isLA h 63 17 W) (hW : lt17 W) {Q : Option Value → am_H → Prop} (K : ∀ h1 : am_H, isT h1 (T ++ nwZ B (zrB (l + 1) W (B b)) a b (B b).length) → isM0 h1 s (nI u) (nI l) pr uD lD nd (nI (T ++ nwZ B (zrB (l + 1) W (B b)) a b (B b).length).length) → fr [56, 71, 72, 73, 74, 75] h h1 → ar Pg X (d + 1 + 1) n_M_exchanged 243 [some (.ref 56), some (.int (nI a)), some (.int (nI b)), x3, x4, some (.int y5), some (.int (nI (64 * b + (B b).length)))] [] h1 Q) : ∀ (n i : Nat) (h1 : am_H), (B b).length - i < n → i ≤ (B b).length → isT h1 (T ++ nwZ B (zrB (l + 1) W (B b)) a b i) → isM0 h1 s (nI u) (nI l) pr uD lD nd (nI (T ++ nwZ B (zrB (l + 1) W (B b)) a b i).length) → fr [56, 71, 72, 73, 74, 75] h h1 → ar Pg X (d + 1 + 1) n_M_exchanged 197 [some (.ref 56), some (.int (nI a)), some (.int (nI b)), x3, x4, some (.int y5), some (.int (nI (64 * b + i)))] [] h1 Q := by
  intro n
  induction n with
  | zero => intro i h1 hi; omega
  | succ n ih =>
    intro i h1 hi hil hTi h56 hF
    have hB1 := hB.mv hF (fun k _ _ => by simp; omega)
    have hB2 := hB1
    obtain ⟨sz, nu, ve, gr, dr, ⟨h57, h58, h59, h60, h61⟩, hc0⟩ := hB2
    have h63 : isLA h1 63 17 W := hF.at h63 (by simp)
    have h560 := h56
    unfold isM0 at h56
    obtain ⟨hsz, ⟨hlen, hS, hV⟩, hfa⟩ := hc0 b hb
    have hnl := nwZ_len B (zrB (l + 1) W (B b)) a b i
    refine ar_go M_M_exchanged 4 _ 203 _ [some (.ref 56), some (.int (nI a)), some (.int (nI b)), x3, x4, some (.int y5), some (.int (nI (64 * b + i)))] _ [.int (nI 64 * nI b), .int (nI (64 * b + i))] rfl ?_
    refine ar_top (w := .int (nI (64 * b))) (congrArg Value.int (pk_mul 64 b)) ?_
    refine ar_go M_M_exchanged 1 _ 204 _ [some (.ref 56), some (.int (nI a)), some (.int (nI b)), x3, x4, some (.int y5), some (.int (nI (64 * b + i)))] _ [.ref 56, .int (nI (64 * b)), .int (nI (64 * b + i))] rfl ?_
    refine ar_get M_M_exchanged rfl rfl h56 rfl ?_
    refine ar_go M_M_exchanged 1 _ 208 _ [some (.ref 56), some (.int (nI a)), some (.int (nI b)), x3, x4, some (.int y5), some (.int (nI (64 * b + i)))] _ [.int (nI b), .ref 57, .int (nI (64 * b)), .int (nI (64 * b + i))] rfl ?_
    refine ar_iald M_M_exchanged rfl (by unfold am_x0; omega) h57 (vp_in_nI (by omega) (by decide)) ?_
    rw [nI_clamp (n := b) (by omega)]
    refine ar_top (w := .int (nI ((B b).length))) (congrArg Value.int hsz) ?_
    refine ar_go M_M_exchanged 1 _ 210 _ [some (.ref 56), some (.int (nI a)), some (.int (nI b)), x3, x4, some (.int y5), some (.int (nI (64 * b + i)))] _ [.int (nI (64 * b) + nI ((B b).length)), .int (nI (64 * b + i))] rfl ?_
    refine ar_top (w := .int (nI ((64 * b) + ((B b).length)))) (congrArg Value.int (nI_add (64 * b) ((B b).length))) ?_
    refine ar_icmp M_M_exchanged rfl rfl (fun hc => ?_) (fun hc => ?_)
    · have hc := c2_ge_t (a := (64 * b + i)) (b := ((64 * b) + ((B b).length))) (by omega) (by omega) hc
      have hi2 : i = (B b).length := by omega
      subst hi2
      exact K h1 hTi h560 hF
    · have hc := c2_ge_f (a := (64 * b + i)) (b := ((64 * b) + ((B b).length))) (by omega) (by omega) hc
      have hvi := hV i (by omega)
      refine ar_go M_M_exchanged 3 _ 217 _ [some (.ref 56), some (.int (nI a)), some (.int (nI b)), x3, x4, some (.int y5), some (.int (nI (64 * b + i)))] _ [.int (nI (64 * b + i)), .ref 56, .ref 56] rfl ?_
      refine ar_CV M_M_exchanged rfl rfl (Or.inl rfl) rfl rfl (Nat.le_of_ble_eq_true rfl) h56 M_M_wordAt (Nat.le_of_ble_eq_true rfl) (c_M_wordAt X _ _ h560 hB1 hb (i := i) (by omega)) (fun r1 h1 hq => ?_)
      obtain ⟨rfl, rfl⟩ := hq
      refine ⟨rfl, ?_⟩
      show ar Pg _ _ _ 220 [some (.ref 56), some (.int (nI a)), some (.int (nI b)), x3, x4, some (.int y5), some (.int (nI (64 * b + i)))] [.int (nI (wd (B b) i)), .ref 56] _ _
      refine ar_go M_M_exchanged 1 _ 221 _ [some (.ref 56), some (.int (nI a)), some (.int (nI b)), x3, x4, some (.int y5), some (.int (nI (64 * b + i)))] _ [.long ((nI (wd (B b) i)).toInt64), .ref 56] rfl ?_
      refine ar_top (w := .long (lN (wd (B b) i))) (congrArg Value.long (nI_l (by omega))) ?_
      refine ar_CV M_M_exchanged rfl rfl (Or.inl rfl) rfl rfl (Nat.le_of_ble_eq_true rfl) h56 M_M_lowAt (Nat.le_of_ble_eq_true rfl) (c_M_lowAt X d _ (k := l + 1) (x := wd (B b) i) h560 h63 hW (by omega) (by omega)) (fun r1 h1 hq => ?_)
      obtain ⟨rfl, rfl⟩ := hq
      refine ⟨rfl, ?_⟩
      show ar Pg _ _ _ 224 [some (.ref 56), some (.int (nI a)), some (.int (nI b)), x3, x4, some (.int y5), some (.int (nI (64 * b + i)))] [.long (lN (hvS W (wd (B b) i) (l + 1) 0))] _ _
      refine ar_go M_M_exchanged 2 _ 226 _ [some (.ref 56), some (.int (nI a)), some (.int (nI b)), x3, x4, some (.int y5), some (.int (nI (64 * b + i)))] _ [.int (lg_cmp (lN (hvS W (wd (B b) i) (l + 1) 0)) (lN 0))] rfl ?_
      refine ar_top (w := .int (if hvS W (wd (B b) i) (l + 1) 0 = 0 then 0 else 1)) (congrArg Value.int (lcmp0 (hvS_lt _ _ _ _))) ?_
      by_cases he : hvS W (wd (B b) i) (l + 1) 0 = 0
      · rw [if_pos he]
        refine ar_if M_M_exchanged rfl rfl (fun z => absurd z (by decide)) (fun _ => ?_)
        have hP : zrB (l + 1) W (B b) i = true := decide_eq_true he
        refine ar_go M_M_exchanged 3 _ 233 _ [some (.ref 56), some (.int (nI a)), some (.int (nI b)), x3, x4, some (.int y5), some (.int (nI (64 * b + i)))] _ [.int (nI (64 * b + i)), .int (nI a), .ref 56] rfl ?_
        refine ar_CV M_M_exchanged rfl rfl (Or.inl rfl) rfl rfl (Nat.le_of_ble_eq_true rfl) h56 M_M_offer (Nat.le_of_ble_eq_true rfl) (c_M_offer X d _ h560 hB1 hTi ha hb (i := i) (by omega) (by rw [List.length_append]; omega)) (fun r1 h2 hq => ?_)
        obtain ⟨⟨v1, rfl⟩, hf, hm, hT2⟩ := hq
        refine ⟨hf.1, ?_⟩
        show ar Pg _ _ _ 236 [some (.ref 56), some (.int (nI a)), some (.int (nI b)), x3, x4, some (.int y5), some (.int (nI (64 * b + i)))] [.int v1] _ _
        refine ar_go M_M_exchanged 1 _ 237 _ [some (.ref 56), some (.int (nI a)), some (.int (nI b)), x3, x4, some (.int y5), some (.int (nI (64 * b + i)))] _ [] rfl ?_
        refine ar_go M_M_exchanged 1 _ 240 _ [some (.ref 56), some (.int (nI a)), some (.int (nI b)), x3, x4, some (.int y5), some (.int (nI (64 * b + i) + Int32.ofInt 1))] _ [] rfl ?_
        rw [show nI (64 * b + i) + Int32.ofInt 1 = nI ((64 * b + i) + 1) from nI_add (64 * b + i) 1]
        refine ar_go M_M_exchanged 1 _ 197 _ [some (.ref 56), some (.int (nI a)), some (.int (nI b)), x3, x4, some (.int y5), some (.int (nI ((64 * b + i) + 1)))] _ [] rfl ?_
        rw [nwZ_t T B _ _ hP] at hm hT2
        exact ih (i + 1) h2 (by omega) (by omega) hT2 hm (hF.tr hf (fun _ z => z) (fun _ z => z))
      · rw [if_neg he]
        refine ar_if M_M_exchanged rfl rfl (fun _ => ?_) (fun z => absurd z (by decide))
        have hP : ¬ zrB (l + 1) W (B b) i = true := by simpa [zrB] using he
        refine ar_go M_M_exchanged 1 _ 240 _ [some (.ref 56), some (.int (nI a)), some (.int (nI b)), x3, x4, some (.int y5), some (.int (nI (64 * b + i) + Int32.ofInt 1))] _ [] rfl ?_
        rw [show nI (64 * b + i) + Int32.ofInt 1 = nI ((64 * b + i) + 1) from nI_add (64 * b + i) 1]
        refine ar_go M_M_exchanged 1 _ 197 _ [some (.ref 56), some (.int (nI a)), some (.int (nI b)), x3, x4, some (.int y5), some (.int (nI ((64 * b + i) + 1)))] _ [] rfl ?_
        rw [← nwZ_f B _ _ hP] at h560 hTi
        exact ih (i + 1) h1 (by omega) (by omega) hTi h560 hF
theorem c_M_ex_t (X : am_X) (d : Nat) (h : am_H) {B : Nat → Bk} {T : Tk} {s : Int64} {pr uD lD nd tn : Int32} {U W : Nat → Nat} {u l a b : Nat} {x3 x4 : Option Value} {y5 : Int32} (hu : u ≤ 16) (hl : l ≤ 16) (ha : a < 4) (hb : b < 4) (hab : a ≠ b) (h56 : isM0 h s (nI u) (nI l) pr uD lD nd tn) (hB : isMb h B) (hT : isT h T) (h62 : isLA h 62 17 U) (h63 : isLA h 63 17 W) (hU : lt17 U) (hW : lt17 W) : ar Pg X (d + 1 + 1) n_M_exchanged 134 [some (.ref 56), some (.int (nI a)), some (.int (nI b)), x3, x4, some (.int y5), none] [] h (fun rr h' => rr = some (.int (dlR (B a) (B b) (zr (B b) l W) (zr (B a) u U))) ∧ fr ([56, 71, 72, 73, 74, 75] ++ [57, 58, 59, 60, 61]) h h' ∧ (∃ tn', isM0 h' (s + dlS (B a) (B b) (zr (B b) l W) (zr (B a) u U)) (nI u) (nI l) pr uD lD nd tn') ∧ isMb h' (dlB B a b (zr (B b) l W) (zr (B a) u U)) ∧ ∃ T', isT h' T') := by
  have hB0 := hB
  obtain ⟨sz, nu, ve, gr, dr, ⟨h57, h58, h59, h60, h61⟩, hc0⟩ := hB
  unfold isM0 at h56
  obtain ⟨hsa, ⟨hla, hSa, hVa⟩, hfaa⟩ := hc0 a ha
  obtain ⟨hsb, ⟨hlb, hSb, hVb⟩, hfab⟩ := hc0 b hb
  have hB64 : ∀ c, c < 4 → (B c).length ≤ 64 := fun c hc => (hc0 c hc).2.1.1
  refine ar_go M_M_exchanged 2 _ 136 _ [some (.ref 56), some (.int (nI a)), some (.int (nI b)), x3, x4, some (.int y5), none] _ [.int (nI 0), .ref 56] rfl ?_
  refine ar_put M_M_exchanged rfl rfl h56 (Nat.le_of_ble_eq_true rfl) rfl (Nat.le_of_ble_eq_true rfl) (fun h2 hf he => ?_)
  have h56 : h2[56]? = some (.inr (5, [.ref 57, .ref 58, .ref 59, .ref 60, .ref 61, .long s, .ref 62, .ref 63, .int (nI u), .int (nI l), .int pr, .ref 64, .ref 65, .ref 66, .ref 67, .int uD, .int lD, .ref 68, .ref 69, .ref 70, .int nd, .int (nI 0), .ref 71, .ref 72, .ref 73, .ref 74, .ref 75])) := he
  have k1 := hf
  have h562 : isM0 h2 s (nI u) (nI l) pr uD lD nd (nI 0) := h56
  have hB2 := hB0.mv k1 (fun k _ _ => by simp; omega)
  have hT2 : isT h2 [] := by obtain ⟨_, ta, tb, tc, td, te, ⟨z1, z2, z3, z4, z5⟩, _⟩ := hT; exact ⟨by simp, ta, tb, tc, td, te, ⟨k1.at z1 (by simp), k1.at z2 (by simp), k1.at z3 (by simp), k1.at z4 (by simp), k1.at z5 (by simp)⟩, fun i hi => absurd hi (Nat.not_lt_zero _)⟩
  refine ar_go M_M_exchanged 3 _ 143 _ [some (.ref 56), some (.int (nI a)), some (.int (nI b)), x3, x4, some (.int y5), none] _ [.int (nI 64 * nI a)] rfl ?_
  refine ar_top (w := .int (nI (64 * a))) (congrArg Value.int (pk_mul 64 a)) ?_
  refine ar_go M_M_exchanged 1 _ 145 _ [some (.ref 56), some (.int (nI a)), some (.int (nI b)), x3, x4, some (.int y5), some (.int (nI (64 * a)))] _ [] rfl ?_
  have hn1 := nwZ_len B (zrB (u + 1) U (B a)) b a (B a).length
  have hn2 := nwZ_len B (zrB (l + 1) W (B b)) a b (B b).length
  refine c_M_ex_1 X d h2 (T := []) (U := U) hu ha hb hB2 (by simp) (k1.at h62 (by simp)) hU ?_ ((B a).length + 1) 0 h2 (by omega) (by omega) hT2 h562 (fr.rf _ _)
  intro h3 hT3 h563 hF3
  rw [List.nil_append] at hT3 h563
  have hB3 := hB2.mv hF3 (fun k _ _ => by simp; omega)
  refine ar_go M_M_exchanged 3 _ 195 _ [some (.ref 56), some (.int (nI a)), some (.int (nI b)), x3, x4, some (.int y5), some (.int (nI (64 * a + (B a).length)))] _ [.int (nI 64 * nI b)] rfl ?_
  refine ar_top (w := .int (nI (64 * b))) (congrArg Value.int (pk_mul 64 b)) ?_
  refine ar_go M_M_exchanged 1 _ 197 _ [some (.ref 56), some (.int (nI a)), some (.int (nI b)), x3, x4, some (.int y5), some (.int (nI (64 * b)))] _ [] rfl ?_
  refine c_M_ex_2 X d h3 (T := nwZ B (zrB (u + 1) U (B a)) b a (B a).length) (W := W) hl hb ha hB3 (by omega) (hF3.at (k1.at h63 (by simp)) (by simp)) hW ?_ ((B b).length + 1) 0 h3 (by omega) (by omega) (by rw [show nwZ B (zrB (l + 1) W (B b)) a b 0 = [] from rfl, List.append_nil]; exact hT3) (by rw [show nwZ B (zrB (l + 1) W (B b)) a b 0 = [] from rfl, List.append_nil]; exact h563) (fr.rf _ _)
  intro h4 hT4 h564 hF4
  have hB4 := hB3.mv hF4 (fun k _ _ => by simp; omega)
  have hokT : okT (nwZ B (zrB (u + 1) U (B a)) b a (B a).length ++ nwZ B (zrB (l + 1) W (B b)) a b (B b).length) := okT_nz (by rw [← List.nil_append (nwZ B (zrB (u + 1) U (B a)) b a (B a).length)]; exact okT_nz (fun k hk => absurd hk (Nat.not_lt_zero _)) hb hVa _ (Nat.le_refl _)) ha hVb _ (Nat.le_refl _)
  have hTT : (nwZ B (zrB (u + 1) U (B a)) b a (B a).length ++ nwZ B (zrB (l + 1) W (B b)) a b (B b).length) = tkL b (kn (zr (B a) u U) (B b)) ++ tkL a (kn (zr (B b) l W) (B a)) := by rw [nwZ_kn, nwZ_kn]; rfl
  rw [hTT] at hT4 h564 hokT
  have hiff := tk_ov (B := B) ha hb hab hB64 (zr (B b) l W) (zr (B a) u U)
  have htB := tk_tB (B := B) hab (kn (zr (B a) u U) (B b)) (kn (zr (B b) l W) (B a))
  have hlen : (tkL b (kn (zr (B a) u U) (B b)) ++ tkL a (kn (zr (B b) l W) (B a))).length = (kn (zr (B b) l W) (B a)).length + (kn (zr (B a) u U) (B b)).length := by rw [List.length_append, tkL_len, tkL_len]; omega
  generalize tkL b (kn (zr (B a) u U) (B b)) ++ tkL a (kn (zr (B b) l W) (B a)) = TT at *
  have h565 := h564
  unfold isM0 at h565
  refine ar_go M_M_exchanged 1 _ 244 _ [some (.ref 56), some (.int (nI a)), some (.int (nI b)), x3, x4, some (.int y5), some (.int (nI (64 * b + (B b).length)))] _ [.ref 56] rfl ?_
  refine ar_CV M_M_exchanged rfl rfl (Or.inl rfl) rfl rfl (Nat.le_of_ble_eq_true rfl) h565 M_M_takeOver (Nat.le_of_ble_eq_true rfl) (c_M_takeOver X d _ h564 hB4 hT4 hokT) (fun r1 h6 hq => ?_)
  obtain ⟨hr1, hf6, hy, hn⟩ := hq
  refine ⟨hf6.1, ?_⟩
  have hF6 : fr ([56, 71, 72, 73, 74, 75] ++ [57, 58, 59, 60, 61]) h h6 := ((k1.tr hF3 (l := [56, 71, 72, 73, 74, 75] ++ [57, 58, 59, 60, 61]) (by simp) (by simp)).tr hF4 (l := [56, 71, 72, 73, 74, 75] ++ [57, 58, 59, 60, 61]) (fun _ z => z) (by simp)).tr hf6 (fun _ z => z) (by simp)
  by_cases hov : dlF (B a) (B b) (zr (B b) l W) (zr (B a) u U) = true
  · have hov2 : ¬ ∀ c, c < 4 → ovT B TT c = false := fun z => by rw [hiff.mp z] at hov; exact absurd hov (by decide)
    rw [if_neg hov2] at hr1
    subst hr1
    obtain ⟨h566, hB6⟩ := hn hov2
    show ar Pg _ _ _ 247 [some (.ref 56), some (.int (nI a)), some (.int (nI b)), x3, x4, some (.int y5), some (.int (nI (64 * b + (B b).length)))] [.int (-3)] _ _
    exact ar_R M_M_exchanged rfl rfl rfl rfl (⟨by unfold dlR; rw [if_pos hov], hF6, ⟨_, by unfold dlS; rw [if_pos hov, Int64.add_zero]; exact h566⟩, by unfold dlB; rw [if_pos hov]; exact hB6, ⟨_, hT4.mv hf6 (fun k _ _ => by simp; omega)⟩⟩)
  · have hov2 : ∀ c, c < 4 → ovT B TT c = false := hiff.mpr (by simpa using hov)
    rw [if_pos hov2] at hr1
    subst hr1
    obtain ⟨h566, hB6⟩ := hy hov2
    rw [hlen] at h566
    rw [htB] at hB6
    show ar Pg _ _ _ 247 [some (.ref 56), some (.int (nI a)), some (.int (nI b)), x3, x4, some (.int y5), some (.int (nI (64 * b + (B b).length)))] [.int (nI (TT.length))] _ _
    exact ar_R M_M_exchanged rfl rfl rfl rfl (⟨by unfold dlR; rw [if_neg hov, hlen], hF6, ⟨_, by unfold dlS; rw [if_neg hov]; exact h566⟩, by unfold dlB; rw [if_neg hov]; exact hB6, ⟨_, hT4.mv hf6 (fun k _ _ => by simp; omega)⟩⟩)
theorem ck_cg {m : Nat} {la lb : Bk} {u l : Nat} {U U' W W' : Nat → Nat} (h1 : ∀ i, i ≤ u → U i = U' i) (h2 : ∀ i, i ≤ l → W i = W' i) : ckB m la lb u U l W = ckB m la lb u U' l W' := by
  unfold ckB
  rw [zr_congr h2, zr_congr h1, ftA_congr (p := m + 2) (SA' := sq la) (SB' := sq lb) h1 h2 (fun _ _ => rfl) (fun _ _ => rfl) (m + 2) 0 (by omega)]
theorem c_M_exchanged (X : am_X) (d : Nat) (h : am_H) {S : Sg} (hS : isMS h S) {a b m : Nat} (ha : a < 4) (hb : b < 4) (hab : a ≠ b) (hm1 : 1 ≤ m) (hm : m ≤ 16) : ar Pg X (d + 1 + 1 + 1 + 1 + 1) n_M_exchanged 0 [some (.ref 56), some (.int (nI a)), some (.int (nI b)), some (.int (nI m)), none, none, none] [] h (fun rr h' => rr = some (.int (exF oO S a b m).1) ∧ fr mLs h h' ∧ isMS h' (exF oO S a b m).2) := by
  obtain ⟨B, s, u0, U0, l0, W0⟩ := S
  obtain ⟨⟨pr, uD, lD, nd, tn, h56⟩, hB, ⟨T, hT⟩, hMw, hMp⟩ := hS
  dsimp only at h56 hB hMp
  have hB0 := hB
  obtain ⟨sz, nu, ve, gr, dr, ⟨h57, h58, h59, h60, h61⟩, hc0⟩ := hB
  unfold isM0 at h56
  obtain ⟨hsa, hga, hfaa⟩ := hc0 a ha
  obtain ⟨hsb, hgb, hfab⟩ := hc0 b hb
  have hla := hga.1
  have hlb := hgb.1
  refine ar_go M_M_exchanged 2 _ 2 _ [some (.ref 56), some (.int (nI a)), some (.int (nI b)), some (.int (nI m)), none, none, none] _ [.ref 56, .ref 56] rfl ?_
  refine ar_get M_M_exchanged rfl rfl h56 rfl ?_
  refine ar_go M_M_exchanged 3 _ 8 _ [some (.ref 56), some (.int (nI a)), some (.int (nI b)), some (.int (nI m)), none, none, none] _ [.int (nI m + nI 3), .long s, .ref 56] rfl ?_
  refine ar_top (w := .int (nI (m + 3))) (congrArg Value.int (nI_add m 3)) ?_
  refine ar_go M_M_exchanged 1 _ 9 _ [some (.ref 56), some (.int (nI a)), some (.int (nI b)), some (.int (nI m)), none, none, none] _ [.long ((nI (m + 3)).toInt64), .long s, .ref 56] rfl ?_
  refine ar_top (w := .long (lN (m + 3))) (congrArg Value.long (nI_l (by omega))) ?_
  refine ar_go M_M_exchanged 1 _ 10 _ [some (.ref 56), some (.int (nI a)), some (.int (nI b)), some (.int (nI m)), none, none, none] _ [.long (s + lN (m + 3)), .ref 56] rfl ?_
  refine ar_put M_M_exchanged rfl rfl h56 (Nat.le_of_ble_eq_true rfl) rfl (Nat.le_of_ble_eq_true rfl) (fun h2 hf he => ?_)
  have h57 := hf.at h57 (by simp only [List.mem_cons, List.not_mem_nil, or_false]; omega)
  have h58 := hf.at h58 (by simp only [List.mem_cons, List.not_mem_nil, or_false]; omega)
  have h59 := hf.at h59 (by simp only [List.mem_cons, List.not_mem_nil, or_false]; omega)
  have h60 := hf.at h60 (by simp only [List.mem_cons, List.not_mem_nil, or_false]; omega)
  have h61 := hf.at h61 (by simp only [List.mem_cons, List.not_mem_nil, or_false]; omega)
  have h56 : h2[56]? = some (.inr (5, [.ref 57, .ref 58, .ref 59, .ref 60, .ref 61, .long (s + lN (m + 3)), .ref 62, .ref 63, .int (nI u0), .int (nI l0), .int pr, .ref 64, .ref 65, .ref 66, .ref 67, .int uD, .int lD, .ref 68, .ref 69, .ref 70, .int nd, .int tn, .ref 71, .ref 72, .ref 73, .ref 74, .ref 75])) := he
  have k1 := hf
  refine ar_go M_M_exchanged 1 _ 14 _ [some (.ref 56), some (.int (nI a)), some (.int (nI b)), some (.int (nI m)), none, none, none] _ [.ref 56] rfl ?_
  refine ar_get M_M_exchanged rfl rfl h56 rfl ?_
  refine ar_go M_M_exchanged 1 _ 18 _ [some (.ref 56), some (.int (nI a)), some (.int (nI b)), some (.int (nI m)), none, none, none] _ [.int (nI a), .ref 57] rfl ?_
  refine ar_iald M_M_exchanged rfl (by unfold am_x0; omega) h57 (vp_in_nI (by omega) (by decide)) ?_
  rw [nI_clamp (n := a) (by omega)]
  refine ar_top (w := .int (nI ((B a).length))) (congrArg Value.int hsa) ?_
  refine ar_go M_M_exchanged 1 _ 20 _ [some (.ref 56), some (.int (nI a)), some (.int (nI b)), some (.int (nI m)), none, none, none] _ [.ref 56, .int (nI ((B a).length))] rfl ?_
  refine ar_get M_M_exchanged rfl rfl h56 rfl ?_
  refine ar_go M_M_exchanged 1 _ 24 _ [some (.ref 56), some (.int (nI a)), some (.int (nI b)), some (.int (nI m)), none, none, none] _ [.int (nI b), .ref 57, .int (nI ((B a).length))] rfl ?_
  refine ar_iald M_M_exchanged rfl (by unfold am_x0; omega) h57 (vp_in_nI (by omega) (by decide)) ?_
  rw [nI_clamp (n := b) (by omega)]
  refine ar_top (w := .int (nI ((B b).length))) (congrArg Value.int hsb) ?_
  refine ar_go M_M_exchanged 1 _ 26 _ [some (.ref 56), some (.int (nI a)), some (.int (nI b)), some (.int (nI m)), none, none, none] _ [.int (nI ((B a).length) - nI ((B b).length))] rfl ?_
  refine ar_top (w := .int (nI ((B a).length) - nI ((B b).length))) (congrArg Value.int rfl) ?_
  refine ar_go M_M_exchanged 3 _ 31 _ [some (.ref 56), some (.int (nI a)), some (.int (nI b)), some (.int (nI m)), some (.int (nI ((B a).length) - nI ((B b).length))), none, none] _ [.int (nI m), .int (nI ((B a).length) - nI ((B b).length))] rfl ?_
  have hB2 := hB0.mv k1 (fun k _ _ => by simp; omega)
  have hT2 := hT.mv k1 (fun k _ _ => by simp; omega)
  have hw2 := hMw.mv k1 (fun k _ _ => by simp; omega)
  have hp2 := hMp.mv k1 (by simp) (by simp)
  refine ar_icmp M_M_exchanged rfl rfl (fun hc => ?_) (fun hc => ?_)
  · rw [df_gt (by omega) (by omega) (by omega)] at hc
    have hc := of_decide_eq_true hc
    refine ar_go M_M_exchanged 1 _ 43 _ [some (.ref 56), some (.int (nI a)), some (.int (nI b)), some (.int (nI m)), some (.int (nI ((B a).length) - nI ((B b).length))), none, none] _ [.int (-4)] rfl ?_
    exact ar_R M_M_exchanged rfl rfl rfl rfl (⟨by rw [exF, rf_far (m := m) (la := B a) (lb := B b) (Or.inl hc)], k1.mono (mL_of (by simp)), by rw [exF, rf_far (m := m) (la := B a) (lb := B b) (Or.inl hc)]; exact ⟨⟨_, _, _, _, _, h56⟩, hB2, ⟨_, hT2⟩, hw2, hp2⟩⟩)
  · rw [df_gt (by omega) (by omega) (by omega)] at hc
    have hc := of_decide_eq_false hc
    refine ar_go M_M_exchanged 3 _ 38 _ [some (.ref 56), some (.int (nI a)), some (.int (nI b)), some (.int (nI m)), some (.int (nI ((B a).length) - nI ((B b).length))), none, none] _ [.int (-(nI m)), .int (nI ((B a).length) - nI ((B b).length))] rfl ?_
    refine ar_icmp M_M_exchanged rfl rfl (fun hc2 => ?_) (fun hc2 => ?_)
    · rw [df_ge (by omega) (by omega) (by omega)] at hc2
      have hc2 := of_decide_eq_true hc2
      obtain ⟨e1, e2, e3, e4, e5, e6⟩ := nN_facts (m := m) (na := (B a).length) (nb := (B b).length) (by omega) hc2 hm1
      refine ar_go M_M_exchanged 3 _ 48 _ [some (.ref 56), some (.int (nI a)), some (.int (nI b)), some (.int (nI m)), some (.int (nI ((B a).length) - nI ((B b).length))), none, none] _ [.int (nI m - (nI ((B a).length) - nI ((B b).length)))] rfl ?_
      refine ar_top (w := .int (nI (m + (B b).length - (B a).length))) (congrArg Value.int (df_m (by omega))) ?_
      refine ar_go M_M_exchanged 1 _ 49 _ [some (.ref 56), some (.int (nI a)), some (.int (nI b)), some (.int (nI m)), some (.int (nI ((B a).length) - nI ((B b).length))), none, none] _ [.int (nI 2), .int (nI (m + (B b).length - (B a).length))] rfl ?_
      refine ar_irem M_M_exchanged rfl (by decide) ?_
      refine ar_top (w := .int (nI ((m + (B b).length - (B a).length) % 2))) (congrArg Value.int (pk_rem (by omega) (by decide) (by decide))) ?_
      have hgo : ar Pg X (d + 1 + 1 + 1 + 1 + 1) n_M_exchanged 60 [some (.ref 56), some (.int (nI a)), some (.int (nI b)), some (.int (nI m)), some (.int (nI (B a).length - nI (B b).length)), none, none] [.int (nI (nN m (B a).length (B b).length))] h2 (fun rr h' => rr = some (.int (exF oO (B, s, u0, U0, l0, W0) a b m).1) ∧ fr mLs h h' ∧ isMS h' (exF oO (B, s, u0, U0, l0, W0) a b m).2) := by
        refine ar_go M_M_exchanged 5 _ 68 _ [some (.ref 56), some (.int (nI a)), some (.int (nI b)), some (.int (nI m)), some (.int (nI (B a).length - nI (B b).length)), some (.int (nI (nN m (B a).length (B b).length))), none] _ [.int (nI (nN m (B a).length (B b).length) + (nI (B a).length - nI (B b).length)), .ref 56] rfl ?_
        refine ar_top (w := .int (nI ((nN m (B a).length (B b).length) + (B a).length - (B b).length))) (congrArg Value.int (df_p (by omega))) ?_
        refine ar_go M_M_exchanged 1 _ 69 _ [some (.ref 56), some (.int (nI a)), some (.int (nI b)), some (.int (nI m)), some (.int (nI (B a).length - nI (B b).length)), some (.int (nI (nN m (B a).length (B b).length))), none] _ [.int (nI 2), .int (nI ((nN m (B a).length (B b).length) + (B a).length - (B b).length)), .ref 56] rfl ?_
        refine ar_idiv M_M_exchanged rfl (by decide) ?_
        refine ar_top (w := .int (nI (uN m (B a).length (B b).length))) (congrArg Value.int (pk_div (by omega) (by decide) (by decide))) ?_
        refine ar_put M_M_exchanged rfl rfl h56 (Nat.le_of_ble_eq_true rfl) rfl (Nat.le_of_ble_eq_true rfl) (fun h3 hf he => ?_)
        have h56 : h3[56]? = some (.inr (5, [.ref 57, .ref 58, .ref 59, .ref 60, .ref 61, .long (s + lN (m + 3)), .ref 62, .ref 63, .int (nI u0), .int (nI l0), .int pr, .ref 64, .ref 65, .ref 66, .ref 67, .int (nI (uN m (B a).length (B b).length)), .int lD, .ref 68, .ref 69, .ref 70, .int nd, .int tn, .ref 71, .ref 72, .ref 73, .ref 74, .ref 75])) := he
        have k2 := hf
        refine ar_go M_M_exchanged 4 _ 79 _ [some (.ref 56), some (.int (nI a)), some (.int (nI b)), some (.int (nI m)), some (.int (nI (B a).length - nI (B b).length)), some (.int (nI (nN m (B a).length (B b).length))), none] _ [.int (nI (nN m (B a).length (B b).length) - (nI (B a).length - nI (B b).length)), .ref 56] rfl ?_
        refine ar_top (w := .int (nI ((nN m (B a).length (B b).length) + (B b).length - (B a).length))) (congrArg Value.int (df_m (by omega))) ?_
        refine ar_go M_M_exchanged 1 _ 80 _ [some (.ref 56), some (.int (nI a)), some (.int (nI b)), some (.int (nI m)), some (.int (nI (B a).length - nI (B b).length)), some (.int (nI (nN m (B a).length (B b).length))), none] _ [.int (nI 2), .int (nI ((nN m (B a).length (B b).length) + (B b).length - (B a).length)), .ref 56] rfl ?_
        refine ar_idiv M_M_exchanged rfl (by decide) ?_
        refine ar_top (w := .int (nI (lN2 m (B a).length (B b).length))) (congrArg Value.int (pk_div (by omega) (by decide) (by decide))) ?_
        refine ar_put M_M_exchanged rfl rfl h56 (Nat.le_of_ble_eq_true rfl) rfl (Nat.le_of_ble_eq_true rfl) (fun h4 hf he => ?_)
        have h56 : h4[56]? = some (.inr (5, [.ref 57, .ref 58, .ref 59, .ref 60, .ref 61, .long (s + lN (m + 3)), .ref 62, .ref 63, .int (nI u0), .int (nI l0), .int pr, .ref 64, .ref 65, .ref 66, .ref 67, .int (nI (uN m (B a).length (B b).length)), .int (nI (lN2 m (B a).length (B b).length)), .ref 68, .ref 69, .ref 70, .int nd, .int tn, .ref 71, .ref 72, .ref 73, .ref 74, .ref 75])) := he
        have k3 := hf
        refine ar_go M_M_exchanged 4 _ 89 _ [some (.ref 56), some (.int (nI a)), some (.int (nI b)), some (.int (nI m)), some (.int (nI (B a).length - nI (B b).length)), some (.int (nI (nN m (B a).length (B b).length))), none] _ [.int (nI (nN m (B a).length (B b).length)), .int (nI b), .int (nI a), .ref 56] rfl ?_
        have hk3 : fr [56] h h4 := (k1.tr k2 (l := [56]) (by simp) (by simp)).tr k3 (fun _ z => z) (by simp)
        obtain ⟨u, hu⟩ : ∃ u, u = uN m (B a).length (B b).length := ⟨_, rfl⟩
        obtain ⟨l, hl⟩ : ∃ l, l = lN2 m (B a).length (B b).length := ⟨_, rfl⟩
        have h564 : isM0 h4 (s + lN (m + 3)) (nI u0) (nI l0) pr (nI u) (nI l) nd tn := by rw [hu, hl]; exact h56
        rw [← hu, ← hl] at h56
        have hN : (nN m (B a).length (B b).length) = u + l := by rw [hu, hl]; exact e4.symm
        rw [hN]
        have hul : u + l ≤ 16 := by omega
        have hB4 := hB0.mv hk3 (fun k _ _ => by simp; omega)
        have hT4 := hT.mv hk3 (fun k _ _ => by simp; omega)
        obtain ⟨⟨A0, a1, b1⟩, ⟨V0, a2, b2⟩, ⟨Ua0, a3, b3⟩, ⟨Wa0, a4, b4⟩, ⟨O0, a5, b5⟩, ⟨N0, a6, b6⟩, ⟨T0, a7, b7⟩⟩ := hMw.mv hk3 (fun k _ _ => by simp; omega)
        obtain ⟨hu16, hl16, U1, W1, q62, q62l, q63, q63l, qU, qW⟩ := hMp.mv hk3 (by simp) (by simp)
        refine ar_CV M_M_exchanged rfl rfl (Or.inl rfl) rfl rfl (Nat.le_of_ble_eq_true rfl) h56 M_M_solved (Nat.le_of_ble_eq_true rfl) (c_M_solved X d _ hul ha hb b1 b2 b3 b4 h564 hB4 a1 a2 a3 a4) (fun r1 h5 hq => ?_)
        obtain ⟨hf5, ⟨pr5, h565⟩, ⟨A5, h645, hA5⟩, ⟨V5, h655, hV5⟩, Ua, Wa, h665, hUa, h675, hWa, hno, hso⟩ := hq
        refine ⟨hf5.1, ?_⟩
        have hB5 := hB4.mv hf5 (fun k _ _ => by simp; omega)
        have hT5 := hT4.mv hf5 (fun k _ _ => by simp; omega)
        have hF5 : fr [56, 64, 65, 66, 67] h h5 := hk3.tr hf5 (by simp) (fun _ z => z)
        cases hch : chR (sfS (sq (B a)) (sq (B b)) u l V0 (apA A0 u l) (u + l + 2) (u + l)).2.1 u l (sfS (sq (B a)) (sq (B b)) u l V0 (apA A0 u l) (u + l + 2) (u + l)).2.2 with
        | none =>
          obtain rfl := hno hch
          show ar Pg _ _ _ 92 [some (.ref 56), some (.int (nI a)), some (.int (nI b)), some (.int (nI m)), some (.int (nI (B a).length - nI (B b).length)), some (.int (nI (u + l))), none] [.int 0] _ _
          refine ar_if M_M_exchanged rfl rfl (fun z => absurd z (by decide)) (fun _ => ?_)
          have hOn : oO m (B a) (B b) = none := by rw [hu, hl] at hch; exact rf_no hm1 hm (by omega) (by omega) b1 hch
          refine ar_go M_M_exchanged 1 _ 97 _ [some (.ref 56), some (.int (nI a)), some (.int (nI b)), some (.int (nI m)), some (.int (nI (B a).length - nI (B b).length)), some (.int (nI (u + l))), none] _ [.int (-4)] rfl ?_
          exact ar_R M_M_exchanged rfl rfl rfl rfl (⟨by rw [exF, hOn], hF5.mono (mL_of (by simp)), by rw [exF, hOn]; exact ⟨⟨_, _, _, _, _, h565⟩, hB5, ⟨_, hT5⟩, ⟨⟨_, h645, hA5⟩, ⟨_, h655, hV5⟩, ⟨_, h665, hUa⟩, ⟨_, h675, hWa⟩, ⟨_, hf5.at a5 (by simp), b5⟩, ⟨_, hf5.at a6 (by simp), b6⟩, ⟨_, hf5.at a7 (by simp), b7⟩⟩, hu16, hl16, U1, W1, hf5.at q62 (by simp), q62l, hf5.at q63 (by simp), q63l, qU, qW⟩⟩)
        | some C =>
          obtain ⟨rfl, c1, c2⟩ := hso C hch
          show ar Pg _ _ _ 92 [some (.ref 56), some (.int (nI a)), some (.int (nI b)), some (.int (nI m)), some (.int (nI (B a).length - nI (B b).length)), some (.int (nI (u + l))), none] [.int 1] _ _
          refine ar_if M_M_exchanged rfl rfl (fun _ => ?_) (fun z => absurd z (by decide))
          obtain ⟨hW1, q, G, g1, g2, g3, g4, g5, g6⟩ := rf_yes (O := mx (pd u Ua) O0 17) (N := mx (pd l Wa) N0 17) (T := T0) hm1 hm hga hgb (by omega) (by omega) b1 hu hl rfl hch c1 c2 hUa hWa b7 (fun i hi => mx_at hi) (fun i hi => mx_at hi)
          have h56 := h565
          unfold isM0 at h56
          refine ar_go M_M_exchanged 1 _ 99 _ [some (.ref 56), some (.int (nI a)), some (.int (nI b)), some (.int (nI m)), some (.int (nI (B a).length - nI (B b).length)), some (.int (nI (u + l))), none] _ [.ref 56] rfl ?_
          refine ar_CV M_M_exchanged rfl rfl (Or.inl rfl) rfl rfl (Nat.le_of_ble_eq_true rfl) h56 M_M_cancel (Nat.le_of_ble_eq_true rfl) (c_M_cancel X d _ ⟨by omega, by omega⟩ hUa hWa b5 b6 b7 hW1 g1 g2 g3 g4 h565 (hf5.at q62 (by simp)) (hf5.at q63 (by simp)) h665 h675 (hf5.at a5 (by simp)) (hf5.at a6 (by simp)) (hf5.at a7 (by simp))) (fun r1 h6 hq => ?_)
          obtain ⟨rfl, hf6, h566, ⟨O1, T1, N1, T2, o1, o2, o3, o4, h626, h636⟩, ⟨O6, h686, hO6⟩, h696, ⟨T6, h706, hT6⟩⟩ := hq
          refine ⟨hf6.1, ?_⟩
          show ar Pg _ _ _ 102 [some (.ref 56), some (.int (nI a)), some (.int (nI b)), some (.int (nI m)), some (.int (nI (B a).length - nI (B b).length)), some (.int (nI (u + l))), none] [] _ _
          obtain ⟨U', W', hOs, eU, eW⟩ := g6 O1 T1 N1 T2 o1 o2 o3 o4
          have r1 := (rdv_17 (B := G) (q := q) (u + 1 - q) O1 T1 (fun i hi => by rw [o1 i hi]; exact pd_17 hUa i hi) o3 (by omega)).2
          have r2 := (rdv_17 (B := G) (q := q) (l + 1 - q) N1 T2 (fun i hi => by rw [o2 i hi]; exact pd_17 hWa i hi) o4 (by omega)).2
          have m1 := mx_17 r1 q62l (u - q + 1)
          have m2 := mx_17 r2 q63l (l - q + 1)
          have n1 : ∀ i, i ≤ u - q → mx (rdv G q (u + 1 - q) (O1, T1)).2 U1 (u - q + 1) i = U' i := fun i hi => by rw [mx_at (by omega)]; exact eU i hi
          have n2 : ∀ i, i ≤ l - q → mx (rdv G q (l + 1 - q) (N1, T2)).2 W1 (l - q + 1) i = W' i := fun i hi => by rw [mx_at (by omega)]; exact eW i hi
          generalize mx (rdv G q (u + 1 - q) (O1, T1)).2 U1 (u - q + 1) = U2 at *
          generalize mx (rdv G q (l + 1 - q) (N1, T2)).2 W1 (l - q + 1) = W2 at *
          have hu2 : u - q ≤ 16 := by omega
          have hl2 : l - q ≤ 16 := by omega
          generalize u - q = u2 at *
          generalize l - q = l2 at *
          have h56 := h566
          unfold isM0 at h56
          refine ar_go M_M_exchanged 2 _ 104 _ [some (.ref 56), some (.int (nI a)), some (.int (nI b)), some (.int (nI m)), some (.int (nI (B a).length - nI (B b).length)), some (.int (nI (u + l))), none] _ [.ref 56, .ref 56] rfl ?_
          refine ar_get M_M_exchanged rfl rfl h56 rfl ?_
          refine ar_go M_M_exchanged 1 _ 108 _ [some (.ref 56), some (.int (nI a)), some (.int (nI b)), some (.int (nI m)), some (.int (nI (B a).length - nI (B b).length)), some (.int (nI (u + l))), none] _ [.ref 56, .long (s + lN (m + 3)), .ref 56] rfl ?_
          refine ar_get M_M_exchanged rfl rfl h56 rfl ?_
          refine ar_go M_M_exchanged 1 _ 112 _ [some (.ref 56), some (.int (nI a)), some (.int (nI b)), some (.int (nI m)), some (.int (nI (B a).length - nI (B b).length)), some (.int (nI (u + l))), none] _ [.ref 56, .int (nI u2), .long (s + lN (m + 3)), .ref 56] rfl ?_
          refine ar_get M_M_exchanged rfl rfl h56 rfl ?_
          refine ar_go M_M_exchanged 1 _ 116 _ [some (.ref 56), some (.int (nI a)), some (.int (nI b)), some (.int (nI m)), some (.int (nI (B a).length - nI (B b).length)), some (.int (nI (u + l))), none] _ [.int (nI u2 + nI l2), .long (s + lN (m + 3)), .ref 56] rfl ?_
          refine ar_top (w := .int (nI (u2 + l2))) (congrArg Value.int (nI_add u2 l2)) ?_
          refine ar_go M_M_exchanged 1 _ 117 _ [some (.ref 56), some (.int (nI a)), some (.int (nI b)), some (.int (nI m)), some (.int (nI (B a).length - nI (B b).length)), some (.int (nI (u + l))), none] _ [.long ((nI (u2 + l2)).toInt64), .long (s + lN (m + 3)), .ref 56] rfl ?_
          refine ar_top (w := .long (lN (u2 + l2))) (congrArg Value.long (nI_l (by omega))) ?_
          refine ar_go M_M_exchanged 1 _ 118 _ [some (.ref 56), some (.int (nI a)), some (.int (nI b)), some (.int (nI m)), some (.int (nI (B a).length - nI (B b).length)), some (.int (nI (u + l))), none] _ [.long ((s + lN (m + 3)) + lN (u2 + l2)), .ref 56] rfl ?_
          refine ar_put M_M_exchanged rfl rfl h56 (Nat.le_of_ble_eq_true rfl) rfl (Nat.le_of_ble_eq_true rfl) (fun h7 hf he => ?_)
          have h56 : h7[56]? = some (.inr (5, [.ref 57, .ref 58, .ref 59, .ref 60, .ref 61, .long ((s + lN (m + 3)) + lN (u2 + l2)), .ref 62, .ref 63, .int (nI u2), .int (nI l2), .int pr5, .ref 64, .ref 65, .ref 66, .ref 67, .int (nI u), .int (nI l), .ref 68, .ref 69, .ref 70, .int (nI q), .int tn, .ref 71, .ref 72, .ref 73, .ref 74, .ref 75])) := he
          have k7 := hf
          have h567 : isM0 h7 (s + lN (m + 3) + lN (u2 + l2)) (nI u2) (nI l2) pr5 (nI u) (nI l) (nI q) tn := h56
          have hF7 : fr [56, 62, 63, 64, 65, 66, 67, 68, 69, 70] h h7 := (hF5.tr hf6 (l := [56, 62, 63, 64, 65, 66, 67, 68, 69, 70]) (by simp) (by simp)).tr k7 (fun _ z => z) (by simp)
          have hB7 := hB0.mv hF7 (fun k _ _ => by simp; omega)
          have hT7 := hT.mv hF7 (fun k _ _ => by simp; omega)
          have hw7 : isMw h7 := ⟨⟨_, k7.at (hf6.at h645 (by simp)) (by simp), hA5⟩, ⟨_, k7.at (hf6.at h655 (by simp)) (by simp), hV5⟩, ⟨_, k7.at (hf6.at h665 (by simp)) (by simp), hUa⟩, ⟨_, k7.at (hf6.at h675 (by simp)) (by simp), hWa⟩, ⟨_, k7.at h686 (by simp), hO6⟩, ⟨_, k7.at h696 (by simp), g4⟩, ⟨_, k7.at h706 (by simp), hT6⟩⟩
          have h627 := k7.at h626 (by simp)
          have h637 := k7.at h636 (by simp)
          have hck := ck_cg (m := m) (la := B a) (lb := B b) n1 n2
          have hza : zr (B a) u2 U2 = zr (B a) u2 U' := zr_congr n1
          have hzb : zr (B b) l2 W2 = zr (B b) l2 W' := zr_congr n2
          refine ar_go M_M_exchanged 4 _ 125 _ [some (.ref 56), some (.int (nI a)), some (.int (nI b)), some (.int (nI m)), some (.int (nI (B a).length - nI (B b).length)), some (.int (nI (u + l))), none] _ [.int (nI m), .int (nI b), .int (nI a), .ref 56] rfl ?_
          refine ar_CV M_M_exchanged rfl rfl (Or.inl rfl) rfl rfl (Nat.le_of_ble_eq_true rfl) h56 M_M_checked (Nat.le_of_ble_eq_true rfl) (c_M_checked X (d + 1 + 1) _ hu2 hl2 ha hb h567 hB7 h627 h637 m1 m2 hm) (fun r1 h1 hq => ?_)
          obtain ⟨rfl, rfl⟩ := hq
          refine ⟨rfl, ?_⟩
          show ar Pg _ _ _ 128 [some (.ref 56), some (.int (nI a)), some (.int (nI b)), some (.int (nI m)), some (.int (nI (B a).length - nI (B b).length)), some (.int (nI (u + l))), none] [.int (bi (ckB m (B a) (B b) u2 U2 l2 W2))] _ _
          refine ar_if M_M_exchanged rfl rfl (fun hcb => ?_) (fun hcb => ?_)
          · have hcb := bi_ne_t hcb
            refine ar_mono (c_M_ex_t X (d + 1 + 1 + 1) _ hu2 hl2 ha hb hab h567 hB7 hT7 h627 h637 m1 m2) (fun rr h8 z => ?_)
            obtain ⟨z1, z2, ⟨tn8, z3⟩, z4, ⟨T8, z5⟩⟩ := z
            rw [hza, hzb] at z1 z3 z4
            exact ⟨by rw [exF, hOs]; dsimp only; rw [if_pos (by rw [← hck]; exact hcb)]; exact z1, hF7.tr z2 (mL_of (by simp)) (mL_of (by simp)), by rw [exF, hOs]; dsimp only; rw [if_pos (by rw [← hck]; exact hcb)]; exact ⟨⟨_, _, _, _, _, z3⟩, z4, ⟨_, z5⟩, hw7.mv z2 (fun k _ _ => by simp; omega), hu2, hl2, U2, W2, z2.at h627 (by simp), m1, z2.at h637 (by simp), m2, n1, n2⟩⟩
          · have hcb := bi_ne_f hcb
            refine ar_go M_M_exchanged 1 _ 133 _ [some (.ref 56), some (.int (nI a)), some (.int (nI b)), some (.int (nI m)), some (.int (nI (B a).length - nI (B b).length)), some (.int (nI (u + l))), none] _ [.int (-4)] rfl ?_
            exact ar_R M_M_exchanged rfl rfl rfl rfl (⟨by rw [exF, hOs]; dsimp only; rw [if_neg (by rw [← hck, hcb]; decide)], hF7.mono (mL_of (by simp)), by rw [exF, hOs]; dsimp only; rw [if_neg (by rw [← hck, hcb]; decide)]; exact ⟨⟨_, _, _, _, _, h567⟩, hB7, ⟨_, hT7⟩, hw7, hu2, hl2, U2, W2, h627, m1, h637, m2, n1, n2⟩⟩)
      refine ar_if M_M_exchanged rfl rfl (fun hc3 => ?_) (fun hc3 => ?_)
      · have hc3 := c2_ne_t (a := ((m + (B b).length - (B a).length) % 2)) (b := 0) (by omega) (by omega) hc3
        refine ar_go M_M_exchanged 3 _ 60 _ [some (.ref 56), some (.int (nI a)), some (.int (nI b)), some (.int (nI m)), some (.int (nI ((B a).length) - nI ((B b).length))), none, none] _ [.int (nI m - nI 1)] rfl ?_
        refine ar_top (w := .int (nI (m - 1))) (congrArg Value.int (pk_sub (by omega))) ?_
        rw [show nI (m - 1) = nI (nN m (B a).length (B b).length) by unfold nN; rw [if_neg hc3]]
        exact hgo
      · have hc3 := c2_ne_f (a := ((m + (B b).length - (B a).length) % 2)) (b := 0) (by omega) (by omega) hc3
        refine ar_go M_M_exchanged 2 _ 60 _ [some (.ref 56), some (.int (nI a)), some (.int (nI b)), some (.int (nI m)), some (.int (nI ((B a).length) - nI ((B b).length))), none, none] _ [.int (nI m)] rfl ?_
        rw [show (Value.int (nI m) :: []) = [Value.int (nI (nN m (B a).length (B b).length))] by unfold nN; rw [if_pos hc3]]
        exact hgo
    · rw [df_ge (by omega) (by omega) (by omega)] at hc2
      have hc2 := of_decide_eq_false hc2
      refine ar_go M_M_exchanged 1 _ 43 _ [some (.ref 56), some (.int (nI a)), some (.int (nI b)), some (.int (nI m)), some (.int (nI ((B a).length) - nI ((B b).length))), none, none] _ [.int (-4)] rfl ?_
      exact ar_R M_M_exchanged rfl rfl rfl rfl (⟨by rw [exF, rf_far (m := m) (la := B a) (lb := B b) (Or.inr (by omega))], k1.mono (mL_of (by simp)), by rw [exF, rf_far (m := m) (la := B a) (lb := B b) (Or.inr (by omega))]; exact ⟨⟨_, _, _, _, _, h56⟩, hB2, ⟨_, hT2⟩, hw2, hp2⟩⟩)
