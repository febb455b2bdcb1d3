/-! The reference: sift, the rest -/
def siA (A : Nat → Nat) (V : Nat → Nat) (p f : Nat) : Nat → Nat → Nat
  | 0 => A
  | r + 1 => if r = p then siA A V p f r else tkA (siA A V p f r) r p (V r * f % 2147483647) 34
theorem siA_lt {A : Nat → Nat} (h : ltS A) (V : Nat → Nat) (p f : Nat) : ∀ r, ltS (siA A V p f r)
  | 0 => h
  | r + 1 => by
    rw [siA]
    split
    · exact siA_lt h V p f r
    · exact tkA_lt (siA_lt h V p f r) _ _ _ _
theorem c_M_si_2 (X : am_X) (d : Nat) (h : am_H) {s : Int64} {ud ld nd tn : Int32} {V A : Nat → Nat} {u l k x a b p f : Nat} (hl : ltS A) (hV : ∀ r, r < 18 → V r < 2147483648) (hk : k ≤ 18) (hp : p < k) (hf31 : f < 2147483648) (h65 : isLA h 65 18 V) {Q : Option Value → am_H → Prop} (K : ∀ h1 : am_H, isM0 h1 s ud ld (nI k) (nI u) (nI l) nd tn → isLA h1 64 612 (siA A V p f k) → fr [64] h h1 → ar Pg X (d + 1 + 1) n_M_sift 157 [some (.ref 56), some (.long (lN x)), none, some (.long (lN a)), none, some (.long (lN b)), none, some (.int (nI p)), some (.long (lN f)), none, some (.int (nI k))] [] h1 Q) : ∀ (n r : Nat) (h1 : am_H), k - r < n → r ≤ k → isM0 h1 s ud ld (nI k) (nI u) (nI l) nd tn → isLA h1 64 612 (siA A V p f r) → fr [64] h h1 → ar Pg X (d + 1 + 1) n_M_sift 115 [some (.ref 56), some (.long (lN x)), none, some (.long (lN a)), none, some (.long (lN b)), none, some (.int (nI p)), some (.long (lN f)), none, some (.int (nI r))] [] h1 Q := by
  intro n
  induction n with
  | zero => intro r h1 hr; omega
  | succ n ih =>
    intro r h1 hr hrk h56 h64 hF
    have h65 : isLA h1 65 18 V := hF.at h65 (by simp)
    have h560 := h56
    have h640 := h64
    unfold isM0 at h56
    unfold isLA at h64 h65
    refine ar_go M_M_sift 2 _ 118 _ [some (.ref 56), some (.long (lN x)), none, some (.long (lN a)), none, some (.long (lN b)), none, some (.int (nI p)), some (.long (lN f)), none, some (.int (nI r))] _ [.ref 56, .int (nI r)] rfl ?_
    refine ar_get M_M_sift rfl rfl h56 rfl ?_
    refine ar_icmp M_M_sift rfl rfl (fun hc => ?_) (fun hc => ?_)
    · have hc := c2_ge_t (a := r) (b := k) (by omega) (by omega) hc
      have hr2 : r = k := by omega
      rw [hr2] at h640 ⊢
      exact K h1 h560 h640 hF
    · have hc := c2_ge_f (a := r) (b := k) (by omega) (by omega) hc
      refine ar_go M_M_sift 2 _ 128 _ [some (.ref 56), some (.long (lN x)), none, some (.long (lN a)), none, some (.long (lN b)), none, some (.int (nI p)), some (.long (lN f)), none, some (.int (nI r))] _ [.int (nI p), .int (nI r)] rfl ?_
      refine ar_icmp M_M_sift rfl rfl (fun hc2 => ?_) (fun hc2 => ?_)
      · have hc2 := c2_eq_t (a := r) (b := p) (by omega) (by omega) hc2
        refine ar_go M_M_sift 1 _ 154 _ [some (.ref 56), some (.long (lN x)), none, some (.long (lN a)), none, some (.long (lN b)), none, some (.int (nI p)), some (.long (lN f)), none, some (.int (nI r + Int32.ofInt 1))] _ [] rfl ?_
        rw [show nI r + Int32.ofInt 1 = nI (r + 1) from nI_add r 1]
        refine ar_go M_M_sift 1 _ 115 _ [some (.ref 56), some (.long (lN x)), none, some (.long (lN a)), none, some (.long (lN b)), none, some (.int (nI p)), some (.long (lN f)), none, some (.int (nI (r + 1)))] _ [] rfl ?_
        have hq : siA A V p f (r + 1) = siA A V p f r := by rw [siA, if_pos hc2]
        exact ih (r + 1) h1 (by omega) (by omega) h560 (by rw [hq]; exact h640) hF
      · have hc2 := c2_eq_f (a := r) (b := p) (by omega) (by omega) hc2
        have hvr := hV r (by omega)
        refine ar_go M_M_sift 4 _ 137 _ [some (.ref 56), some (.long (lN x)), none, some (.long (lN a)), none, some (.long (lN b)), none, some (.int (nI p)), some (.long (lN f)), none, some (.int (nI r))] _ [.ref 56, .int (nI p), .int (nI r), .ref 56] rfl ?_
        refine ar_get M_M_sift rfl rfl h56 rfl ?_
        refine ar_go M_M_sift 1 _ 142 _ [some (.ref 56), some (.long (lN x)), none, some (.long (lN a)), none, some (.long (lN b)), none, some (.int (nI p)), some (.long (lN f)), none, some (.int (nI r))] _ [.int (nI r), .ref 65, .int (nI p), .int (nI r), .ref 56] rfl ?_
        refine ar_lald M_M_sift rfl h65 (vp_in_nI (by omega) (by decide)) ?_
        rw [nI_clamp (n := r) (by omega)]
        refine ar_go M_M_sift 1 _ 145 _ [some (.ref 56), some (.long (lN x)), none, some (.long (lN a)), none, some (.long (lN b)), none, some (.int (nI p)), some (.long (lN f)), none, some (.int (nI r))] _ [.long (lN f), .long (lN (V r)), .int (nI p), .int (nI r), .ref 56] rfl ?_
        refine ar_CS M_M_sift rfl rfl (Nat.le_of_ble_eq_true rfl) rfl rfl (Nat.le_of_ble_eq_true rfl) M_M_mul (Nat.le_of_ble_eq_true rfl) (c_M_mul X (d + 1) _ (by omega) hf31) (fun r1 h1 hq => ?_)
        obtain ⟨rfl, rfl⟩ := hq
        refine ⟨rfl, ?_⟩
        have hmm : V r * f % 2147483647 < 2147483647 := Nat.mod_lt _ (by decide)
        show ar Pg _ _ _ 148 [some (.ref 56), some (.long (lN x)), none, some (.long (lN a)), none, some (.long (lN b)), none, some (.int (nI p)), some (.long (lN f)), none, some (.int (nI r))] [.long (lN (V r * f % 2147483647)), .int (nI p), .int (nI r), .ref 56] _ _
        refine ar_CV M_M_sift rfl rfl (Or.inl rfl) rfl rfl (Nat.le_of_ble_eq_true rfl) h56 M_M_take (Nat.le_of_ble_eq_true rfl) (c_M_take X d _ (siA_lt hl V p f r) (fm := r) (pp := p) (by omega) (by omega) hc2 (by omega) h560 h640) (fun r1 h2 hq => ?_)
        obtain ⟨rfl, hf, h642⟩ := hq
        refine ⟨hf.1, ?_⟩
        show ar Pg _ _ _ 151 [some (.ref 56), some (.long (lN x)), none, some (.long (lN a)), none, some (.long (lN b)), none, some (.int (nI p)), some (.long (lN f)), none, some (.int (nI r))] [] _ _
        refine ar_go M_M_sift 1 _ 154 _ [some (.ref 56), some (.long (lN x)), none, some (.long (lN a)), none, some (.long (lN b)), none, some (.int (nI p)), some (.long (lN f)), none, some (.int (nI r + Int32.ofInt 1))] _ [] rfl ?_
        rw [show nI r + Int32.ofInt 1 = nI (r + 1) from nI_add r 1]
        refine ar_go M_M_sift 1 _ 115 _ [some (.ref 56), some (.long (lN x)), none, some (.long (lN a)), none, some (.long (lN b)), none, some (.int (nI p)), some (.long (lN f)), none, some (.int (nI (r + 1)))] _ [] rfl ?_
        have hq : siA A V p f (r + 1) = tkA (siA A V p f r) r p (V r * f % 2147483647) 34 := by rw [siA, if_neg hc2]
        exact ih (r + 1) h2 (by omega) (by omega) (hf.at h560 (by simp)) (by rw [hq]; exact h642) (hF.tr hf (fun _ z => z) (fun _ z => z))
/-- the sieve behind a sift: nothing, or without the pivot -/
def sfA (V A : Nat → Nat) (u l k x a b : Nat) : Nat → Nat := match pvO A u l x a b k with
  | none => A
  | some p => cpA (siA A (sVA V A u l x a b k) p (mf_iv (siV A u l x a b p)) k) p (k - 1) 34
def sfK (A : Nat → Nat) (u l k x a b : Nat) : Nat := match pvO A u l x a b k with
  | none => k
  | some _ => k - 1
theorem c_M_sift (X : am_X) (d : Nat) (h : am_H) {s : Int64} {ud ld nd tn : Int32} {V A : Nat → Nat} {u l k x a b : Nat} (hl : ltS A) (hul : u ≤ 16 ∧ l ≤ 16) (hk : k ≤ 18) (hx : x < 2147483648) (ha : a < 2147483648) (hb : b < 2147483648) (hVl : ∀ r, r < 18 → sVA V A u l x a b k r < 2147483648) (h56 : isM0 h s ud ld (nI k) (nI u) (nI l) nd tn) (h64 : isLA h 64 612 A) (h65 : isLA h 65 18 V) : ar Pg X (d + 1 + 1) n_M_sift 0 [some (.ref 56), some (.long (lN x)), none, some (.long (lN a)), none, some (.long (lN b)), none, none, none, none, none] [] h (fun rr h' => rr = none ∧ fr [56, 64, 65] h h' ∧ isM0 h' s ud ld (nI (sfK A u l k x a b)) (nI u) (nI l) nd tn ∧ isLA h' 64 612 (sfA V A u l k x a b) ∧ isLA h' 65 18 (sVA V A u l x a b k)) := by
  refine ar_go M_M_sift 4 _ 6 _ [some (.ref 56), some (.long (lN x)), none, some (.long (lN a)), none, some (.long (lN b)), none, some (.int (-1)), some (.int (nI 0)), none, none] _ [] rfl ?_
  refine c_M_si_1 X d h (V := V) hl hul hk hx ha hb ?_ (k + 1) 0 h (by omega) (by omega) h56 h64 h65 (fr.rf _ _)
  clear h56 h64 h65
  intro h1 h56 h64 h65 hF1
  unfold sfA sfK
  cases hp : pvO A u l x a b k with
  | none =>
    show ar Pg _ _ _ 94 [some (.ref 56), some (.long (lN x)), none, some (.long (lN a)), none, some (.long (lN b)), none, some (.int (-1)), some (.int (nI k)), none, none] [] _ _
    refine ar_go M_M_sift 1 _ 96 _ [some (.ref 56), some (.long (lN x)), none, some (.long (lN a)), none, some (.long (lN b)), none, some (.int (-1)), some (.int (nI k)), none, none] _ [.int (-1)] rfl ?_
    refine ar_if M_M_sift rfl rfl (fun z => absurd z (by decide)) (fun _ => ?_)
    exact ar_R M_M_sift rfl rfl rfl rfl (⟨rfl, hF1.mono (by simp), h56, h64, h65⟩)
  | some p =>
    obtain ⟨hpk, hp0⟩ := pvO_lt A u l x a b k p hp
    obtain ⟨k, rfl⟩ : ∃ k2, k = k2 + 1 := ⟨k - 1, by omega⟩
    show ar Pg _ _ _ 94 [some (.ref 56), some (.long (lN x)), none, some (.long (lN a)), none, some (.long (lN b)), none, some (.int (nI p)), some (.int (nI (k + 1))), none, none] [] _ _
    refine ar_go M_M_sift 1 _ 96 _ [some (.ref 56), some (.long (lN x)), none, some (.long (lN a)), none, some (.long (lN b)), none, some (.int (nI p)), some (.int (nI (k + 1))), none, none] _ [.int (nI p)] rfl ?_
    refine ar_if M_M_sift rfl rfl (fun _ => ?_) (fun z => absurd (of_decide_eq_false z) (fun z => z (nI_nn (by omega))))
    have h560 := h56
    have h640 := h64
    have h650 := h65
    unfold isM0 at h56
    unfold isLA at h65
    refine ar_go M_M_sift 1 _ 101 _ [some (.ref 56), some (.long (lN x)), none, some (.long (lN a)), none, some (.long (lN b)), none, some (.int (nI p)), some (.int (nI (k + 1))), none, none] _ [.ref 56] rfl ?_
    refine ar_get M_M_sift rfl rfl h56 rfl ?_
    refine ar_go M_M_sift 1 _ 106 _ [some (.ref 56), some (.long (lN x)), none, some (.long (lN a)), none, some (.long (lN b)), none, some (.int (nI p)), some (.int (nI (k + 1))), none, none] _ [.int (nI p), .ref 65] rfl ?_
    refine ar_lald M_M_sift rfl h65 (vp_in_nI (by omega) (by decide)) ?_
    rw [nI_clamp (n := p) (by omega)]
    refine ar_top (w := .long (lN (siV A u l x a b p))) (congrArg Value.long (congrArg lN (sVA_at V A u l x a b (k + 1) p hpk))) ?_
    have hsl := siV_lt A u l x a b p
    refine ar_CS M_M_sift rfl rfl (Nat.le_of_ble_eq_true rfl) rfl rfl (Nat.le_of_ble_eq_true rfl) M_M_inverse (Nat.le_of_ble_eq_true rfl) (c_M_inverse X d _ (x := siV A u l x a b p) (by omega)) (fun r1 h1 hq => ?_)
    obtain ⟨rfl, rfl⟩ := hq
    refine ⟨rfl, ?_⟩
    have hil := mf_iv_lt (siV A u l x a b p)
    show ar Pg _ _ _ 110 [some (.ref 56), some (.long (lN x)), none, some (.long (lN a)), none, some (.long (lN b)), none, some (.int (nI p)), some (.int (nI (k + 1))), none, none] [.long (lN (mf_iv (siV A u l x a b p)))] _ _
    refine ar_go M_M_sift 3 _ 115 _ [some (.ref 56), some (.long (lN x)), none, some (.long (lN a)), none, some (.long (lN b)), none, some (.int (nI p)), some (.long (lN (mf_iv (siV A u l x a b p)))), none, some (.int (nI 0))] _ [] rfl ?_
    refine c_M_si_2 X d _ (k := k + 1) hl (fun r hr => hVl r hr) hk hpk (by omega) h650 ?_ (k + 1 + 1) 0 _ (by omega) (by omega) h560 h640 (fr.rf _ _)
    clear h56 h560 h64 h640
    intro h2 h56 h64 hF2
    refine ar_go M_M_sift 2 _ 160 _ [some (.ref 56), some (.long (lN x)), none, some (.long (lN a)), none, some (.long (lN b)), none, some (.int (nI p)), some (.long (lN (mf_iv (siV A u l x a b p)))), none, some (.int (nI (k + 1)))] _ [.int (nI p), .ref 56] rfl ?_
    refine ar_CV M_M_sift rfl rfl (Or.inl rfl) rfl rfl (Nat.le_of_ble_eq_true rfl) h56 M_M_removePair (Nat.le_of_ble_eq_true rfl) (c_M_removePair X (d + 1) _ (ds := p) (pp := k) (by omega) (by omega) h56 h64) (fun r1 h3 hq => ?_)
    obtain ⟨rfl, hf3, h563, h643⟩ := hq
    refine ⟨hf3.1, ?_⟩
    show ar Pg _ _ _ 163 [some (.ref 56), some (.long (lN x)), none, some (.long (lN a)), none, some (.long (lN b)), none, some (.int (nI p)), some (.long (lN (mf_iv (siV A u l x a b p)))), none, some (.int (nI (k + 1)))] [] _ _
    exact ar_R M_M_sift rfl rfl rfl rfl (⟨rfl, (hF1.mono (by simp)).tr (hF2.tr hf3 (l := [56, 64, 65]) (by simp) (by simp)) (fun _ z => z) (fun _ z => z), h563, h643, hf3.at (hF2.at h650 (by simp)) (by simp)⟩)
