/-! The reference: solved -/
theorem sVA_31 {V : Nat → Nat} (hV : ∀ r, r < 18 → V r < 2147483648) (A : Nat → Nat) (u l x a b : Nat) : ∀ n r, r < 18 → sVA V A u l x a b n r < 2147483648
  | 0, r, hr => hV r hr
  | n + 1, r, hr => by
    rw [sVA]
    by_cases h : r = n
    · rw [h, updN_s]
      exact Nat.lt_trans (siV_lt A u l x a b n) (by decide)
    · rw [updN_n _ _ h]
      exact sVA_31 hV A u l x a b n r hr
theorem sfS_31 {SA SB V A : Nat → Nat} {u l k : Nat} (hV : ∀ r, r < 18 → V r < 2147483648) : ∀ j r, r < 18 → (sfS SA SB u l V A k j).1 r < 2147483648
  | 0, r, hr => hV r hr
  | j + 1, r, hr => sVA_31 (sfS_31 hV j) _ _ _ _ _ _ _ r hr
theorem c_M_so_1 (X : am_X) (d : Nat) (h : am_H) {B : Nat → Bk} {s : Int64} {ud ld nd tn : Int32} {V A : Nat → Nat} {u l k a b n : Nat} (hul : u + l ≤ 16) (hn : n ≤ 16) (ha : a < 4) (hb : b < 4) (hB : isMb h B) (hI : ∀ j, j ≤ n → ltS (sfS (sq (B a)) (sq (B b)) u l V A k j).2.1 ∧ (sfS (sq (B a)) (sq (B b)) u l V A k j).2.2 ≤ 18 ∧ ∀ r, r < 18 → (sfS (sq (B a)) (sq (B b)) u l V A k j).1 r < 2147483648) {Q : Option Value → am_H → Prop} (K : ∀ h1 : am_H, isM0 h1 s ud ld (nI (sfS (sq (B a)) (sq (B b)) u l V A k n).2.2) (nI u) (nI l) nd tn → isLA h1 64 612 (sfS (sq (B a)) (sq (B b)) u l V A k n).2.1 → isLA h1 65 18 (sfS (sq (B a)) (sq (B b)) u l V A k n).1 → fr [56, 64, 65] h h1 → ar Pg X (d + 1 + 1 + 1 + 1) n_M_solved 42 [some (.ref 56), some (.int (nI a)), some (.int (nI b)), some (.int (nI n)), some (.int (nI n))] [] h1 Q) : ∀ (m j : Nat) (h1 : am_H), n - j < m → j ≤ n → isM0 h1 s ud ld (nI (sfS (sq (B a)) (sq (B b)) u l V A k j).2.2) (nI u) (nI l) nd tn → isLA h1 64 612 (sfS (sq (B a)) (sq (B b)) u l V A k j).2.1 → isLA h1 65 18 (sfS (sq (B a)) (sq (B b)) u l V A k j).1 → fr [56, 64, 65] h h1 → ar Pg X (d + 1 + 1 + 1 + 1) n_M_solved 7 [some (.ref 56), some (.int (nI a)), some (.int (nI b)), some (.int (nI n)), some (.int (nI j))] [] h1 Q := by
  intro m
  induction m with
  | zero => intro j h1 hj; omega
  | succ m ih =>
    intro j h1 hj hjn h56 h64 h65 hF
    have hB1 := hB.mv hF (fun k _ _ => by simp; omega)
    obtain ⟨i1, i2, i3⟩ := hI j hjn
    obtain ⟨V1, A1, k1, hS⟩ : ∃ V1 A1 k1, (sfS (sq (B a)) (sq (B b)) u l V A k j) = (V1, A1, k1) := ⟨_, _, _, rfl⟩
    rw [hS] at h56 h64 h65 i1 i2 i3
    dsimp only at h56 h64 h65 i1 i2 i3
    have h560 := h56
    unfold isM0 at h56
    refine ar_go M_M_solved 2 _ 10 _ [some (.ref 56), some (.int (nI a)), some (.int (nI b)), some (.int (nI n)), some (.int (nI j))] _ [.int (nI n), .int (nI j)] rfl ?_
    refine ar_icmp M_M_solved rfl rfl (fun hc => ?_) (fun hc => ?_)
    · have hc := c2_ge_t (a := j) (b := n) (by omega) (by omega) hc
      have hj2 : j = n := by omega
      subst hj2
      exact K h1 (by rw [hS]; exact h560) (by rw [hS]; exact h64) (by rw [hS]; exact h65) hF
    · have hc := c2_ge_f (a := j) (b := n) (by omega) (by omega) hc
      refine ar_go M_M_solved 2 _ 16 _ [some (.ref 56), some (.int (nI a)), some (.int (nI b)), some (.int (nI n)), some (.int (nI j))] _ [.int (nI j), .ref 56] rfl ?_
      refine ar_CS M_M_solved rfl rfl (Nat.le_of_ble_eq_true rfl) rfl rfl (Nat.le_of_ble_eq_true rfl) M_M_point (Nat.le_of_ble_eq_true rfl) (c_M_point X _ _ (k := j) (by omega)) (fun r1 h1 hq => ?_)
      obtain ⟨rfl, rfl⟩ := hq
      refine ⟨rfl, ?_⟩
      show ar Pg _ _ _ 19 [some (.ref 56), some (.int (nI a)), some (.int (nI b)), some (.int (nI n)), some (.int (nI j))] [.long (lN (1073741824 + j)), .ref 56] _ _
      refine ar_go M_M_solved 3 _ 23 _ [some (.ref 56), some (.int (nI a)), some (.int (nI b)), some (.int (nI n)), some (.int (nI j))] _ [.int (nI j), .int (nI a), .ref 56, .long (lN (1073741824 + j)), .ref 56] rfl ?_
      refine ar_CV M_M_solved rfl rfl (Or.inl rfl) rfl rfl (Nat.le_of_ble_eq_true rfl) h56 M_M_sampleOf (Nat.le_of_ble_eq_true rfl) (c_M_sampleOf X (d + 1 + 1) _ h560 hB1 ha (k := j) (by omega)) (fun r1 h1 hq => ?_)
      obtain ⟨rfl, rfl⟩ := hq
      refine ⟨rfl, ?_⟩
      show ar Pg _ _ _ 26 [some (.ref 56), some (.int (nI a)), some (.int (nI b)), some (.int (nI n)), some (.int (nI j))] [.long (lN (sq (B a) j)), .long (lN (1073741824 + j)), .ref 56] _ _
      refine ar_go M_M_solved 3 _ 30 _ [some (.ref 56), some (.int (nI a)), some (.int (nI b)), some (.int (nI n)), some (.int (nI j))] _ [.int (nI j), .int (nI b), .ref 56, .long (lN (sq (B a) j)), .long (lN (1073741824 + j)), .ref 56] rfl ?_
      refine ar_CV M_M_solved rfl rfl (Or.inl rfl) rfl rfl (Nat.le_of_ble_eq_true rfl) h56 M_M_sampleOf (Nat.le_of_ble_eq_true rfl) (c_M_sampleOf X (d + 1 + 1) _ h560 hB1 hb (k := j) (by omega)) (fun r1 h1 hq => ?_)
      obtain ⟨rfl, rfl⟩ := hq
      refine ⟨rfl, ?_⟩
      show ar Pg _ _ _ 33 [some (.ref 56), some (.int (nI a)), some (.int (nI b)), some (.int (nI n)), some (.int (nI j))] [.long (lN (sq (B b) j)), .long (lN (sq (B a) j)), .long (lN (1073741824 + j)), .ref 56] _ _
      refine ar_CV M_M_solved rfl rfl (Or.inl rfl) rfl rfl (Nat.le_of_ble_eq_true rfl) h56 M_M_sift (Nat.le_of_ble_eq_true rfl) (c_M_sift X (d + 1) _ (x := 1073741824 + j) (a := sq (B a) j) (b := sq (B b) j) i1 ⟨by omega, by omega⟩ i2 (by omega) (Nat.lt_trans (smp_lt _ _ _) (by decide)) (Nat.lt_trans (smp_lt _ _ _) (by decide)) (sVA_31 i3 _ _ _ _ _ _ _) h560 h64 h65) (fun r1 h2 hq => ?_)
      obtain ⟨rfl, hf, h562, h642, h652⟩ := hq
      refine ⟨hf.1, ?_⟩
      show ar Pg _ _ _ 36 [some (.ref 56), some (.int (nI a)), some (.int (nI b)), some (.int (nI n)), some (.int (nI j))] [] _ _
      refine ar_go M_M_solved 1 _ 39 _ [some (.ref 56), some (.int (nI a)), some (.int (nI b)), some (.int (nI n)), some (.int (nI j + Int32.ofInt 1))] _ [] rfl ?_
      rw [show nI j + Int32.ofInt 1 = nI (j + 1) from nI_add j 1]
      refine ar_go M_M_solved 1 _ 7 _ [some (.ref 56), some (.int (nI a)), some (.int (nI b)), some (.int (nI n)), some (.int (nI (j + 1)))] _ [] rfl ?_
      have hS2 : (sfS (sq (B a)) (sq (B b)) u l V A k (j + 1)) = (sVA V1 A1 u l (1073741824 + j) (sq (B a) j) (sq (B b) j) k1, sfA V1 A1 u l k1 (1073741824 + j) (sq (B a) j) (sq (B b) j), sfK A1 u l k1 (1073741824 + j) (sq (B a) j) (sq (B b) j)) := by rw [sfS, hS]
      exact ih (j + 1) h2 (by omega) (by omega) (by rw [hS2]; exact h562) (by rw [hS2]; exact h642) (by rw [hS2]; exact h652) (hF.tr hf (fun _ z => z) (fun _ z => z))
theorem c_M_solved (X : am_X) (d : Nat) (h : am_H) {B : Nat → Bk} {s : Int64} {ud ld nd tn : Int32} {pr : Int32} {V A Ua Wa : Nat → Nat} {u l a b : Nat} (hul : u + l ≤ 16) (ha : a < 4) (hb : b < 4) (hl : ltS A) (hV : ∀ r, r < 18 → V r < 2147483648) (hU : lt17 Ua) (hW : lt17 Wa) (h56 : isM0 h s ud ld pr (nI u) (nI l) nd tn) (hB : isMb h B) (h64 : isLA h 64 612 A) (h65 : isLA h 65 18 V) (h66 : isLA h 66 17 Ua) (h67 : isLA h 67 17 Wa) : ar Pg X (d + 1 + 1 + 1 + 1) n_M_solved 0 [some (.ref 56), some (.int (nI a)), some (.int (nI b)), some (.int (nI (u + l))), none] [] h (fun rr h' => fr [56, 64, 65, 66, 67] h h' ∧ (∃ pr', isM0 h' s ud ld pr' (nI u) (nI l) nd tn) ∧ (∃ A', isLA h' 64 612 A' ∧ ltS A') ∧ (∃ V', isLA h' 65 18 V' ∧ ∀ r, r < 18 → V' r < 2147483648) ∧ ∃ Ua' Wa', isLA h' 66 17 Ua' ∧ lt17 Ua' ∧ isLA h' 67 17 Wa' ∧ lt17 Wa' ∧ (chR (sfS (sq (B a)) (sq (B b)) u l V (apA A u l) (u + l + 2) (u + l)).2.1 u l (sfS (sq (B a)) (sq (B b)) u l V (apA A u l) (u + l + 2) (u + l)).2.2 = none → rr = some (.int 0)) ∧ ∀ C, chR (sfS (sq (B a)) (sq (B b)) u l V (apA A u l) (u + l + 2) (u + l)).2.1 u l (sfS (sq (B a)) (sq (B b)) u l V (apA A u l) (u + l + 2) (u + l)).2.2 = some C → rr = some (.int 1) ∧ (∀ i, i ≤ u → Ua' i = C (34 * ((sfS (sq (B a)) (sq (B b)) u l V (apA A u l) (u + l + 2) (u + l)).2.2 - 1) + i)) ∧ ∀ i, i ≤ l → Wa' i = C (34 * ((sfS (sq (B a)) (sq (B b)) u l V (apA A u l) (u + l + 2) (u + l)).2.2 - 1) + (17 + i))) := by
  have h560 := h56
  unfold isM0 at h56
  refine ar_go M_M_solved 1 _ 1 _ [some (.ref 56), some (.int (nI a)), some (.int (nI b)), some (.int (nI (u + l))), none] _ [.ref 56] rfl ?_
  refine ar_CV M_M_solved rfl rfl (Or.inl rfl) rfl rfl (Nat.le_of_ble_eq_true rfl) h56 M_M_allPairs (Nat.le_of_ble_eq_true rfl) (c_M_allPairs X _ _ hul h560 h64) (fun r1 h1 hq => ?_)
  obtain ⟨rfl, hf1, h561, h641⟩ := hq
  refine ⟨hf1.1, ?_⟩
  show ar Pg _ _ _ 4 [some (.ref 56), some (.int (nI a)), some (.int (nI b)), some (.int (nI (u + l))), none] [] _ _
  refine ar_go M_M_solved 2 _ 7 _ [some (.ref 56), some (.int (nI a)), some (.int (nI b)), some (.int (nI (u + l))), some (.int (nI 0))] _ [] rfl ?_
  have hI := fun j hj => sfS_I (SA := sq (B a)) (SB := sq (B b)) (V := V) hl hul j hj
  refine c_M_so_1 X d h1 (V := V) hul (by omega) ha hb (hB.mv hf1 (fun k _ _ => by simp; omega)) (fun j hj => ⟨(hI j hj).1.1, by have := (hI j hj).2.2; omega, sfS_31 hV j⟩) ?_ (u + l + 1) 0 h1 (by omega) (by omega) h561 h641 (hf1.at h65 (by simp)) (fr.rf _ _)
  intro h2 h562 h642 h652 hF2
  obtain ⟨i1, i2, i3⟩ := hI (u + l) (Nat.le_refl _)
  have hF3 : fr [56, 64, 65] h h2 := hf1.tr hF2 (by simp) (fun _ z => z)
  have h563 := h562
  unfold isM0 at h563
  have hv31 := sfS_31 (SA := sq (B a)) (SB := sq (B b)) (u := u) (l := l) (A := apA A u l) (k := u + l + 2) hV (u + l)
  refine ar_go M_M_solved 1 _ 43 _ [some (.ref 56), some (.int (nI a)), some (.int (nI b)), some (.int (nI (u + l))), some (.int (nI (u + l)))] _ [.ref 56] rfl ?_
  refine ar_CV M_M_solved rfl rfl (Or.inl rfl) rfl rfl (Nat.le_of_ble_eq_true rfl) h563 M_M_choose (Nat.le_of_ble_eq_true rfl) (c_M_choose X d _ i1.1 hul (by omega) (by omega) hU hW h562 h642 (hF3.at h66 (by simp)) (hF3.at h67 (by simp))) (fun r1 h4 hq => ?_)
  obtain ⟨hf4, h564, h644, Ua', Wa', h664, hU4, h674, hW4, hno, hso⟩ := hq
  refine ⟨hf4.1, ?_⟩
  cases hc : chR (sfS (sq (B a)) (sq (B b)) u l V (apA A u l) (u + l + 2) (u + l)).2.1 u l (sfS (sq (B a)) (sq (B b)) u l V (apA A u l) (u + l + 2) (u + l)).2.2 with
  | none =>
    obtain rfl := hno hc
    show ar Pg _ _ _ 46 [some (.ref 56), some (.int (nI a)), some (.int (nI b)), some (.int (nI (u + l))), some (.int (nI (u + l)))] [.int 0] _ _
    exact ar_zret M_M_solved rfl rfl (Or.inl rfl) (⟨hF3.tr hf4 (l := [56, 64, 65, 66, 67]) (by simp) (by simp), h564, h644, ⟨_, hf4.at h652 (by simp), hv31⟩, Ua', Wa', h664, hU4, h674, hW4, fun _ => rfl, fun C z => (by cases z)⟩)
  | some C =>
    obtain ⟨rfl, e1, e2⟩ := hso C hc
    show ar Pg _ _ _ 46 [some (.ref 56), some (.int (nI a)), some (.int (nI b)), some (.int (nI (u + l))), some (.int (nI (u + l)))] [.int 1] _ _
    exact ar_zret M_M_solved rfl rfl (Or.inr rfl) (⟨hF3.tr hf4 (l := [56, 64, 65, 66, 67]) (by simp) (by simp), h564, h644, ⟨_, hf4.at h652 (by simp), hv31⟩, Ua', Wa', h664, hU4, h674, hW4, fun z => (by cases z), fun C2 z => (by cases z; exact ⟨rfl, e1, e2⟩)⟩)
