/-! The reference: removePair, allPairs -/
theorem c_M_rp_loop (X : am_X) (d : Nat) (h : am_H) {s : Int64} {ud ld uD lD nd tn : Int32} {A : Nat → Nat} {ds pp : Nat} (hds : ds < 18) (hpp : pp < 18) : ∀ (n i : Nat) (h1 : am_H), i + n = 34 → isM0 h1 s ud ld (nI pp) uD lD nd tn → isLA h1 64 612 (cpA A ds pp i) → fr [64] h h1 → ar Pg X d n_M_removePair 12 [some (.ref 56), some (.int (nI ds)), some (.int (nI i))] [] h1 (fun rr h' => rr = none ∧ fr [64] h h' ∧ isLA h' 64 612 (cpA A ds pp 34)) := by
  intro n
  induction n with
  | zero =>
    intro i h1 hi h56 h64 hF
    have hi34 : i = 34 := by omega
    subst hi34
    refine ar_go M_M_removePair 2 _ 15 _ [some (.ref 56), some (.int (nI ds)), some (.int (nI 34))] _ [.int (nI 34), .int (nI 34)] rfl ?_
    refine ar_icmp M_M_removePair rfl rfl (fun _ => ?_) (fun z => absurd z (by decide))
    exact ar_R M_M_removePair rfl rfl rfl rfl ⟨rfl, hF, h64⟩
  | succ n ih =>
    intro i h1 hi h56 h64 hF
    unfold isM0 at h56
    unfold isLA at h64
    refine ar_go M_M_removePair 2 _ 15 _ [some (.ref 56), some (.int (nI ds)), some (.int (nI i))] _ [.int (nI 34), .int (nI i)] rfl ?_
    refine ar_icmp M_M_removePair rfl rfl (fun hc => ?_) (fun hc => ?_)
    · have hc := c2_ge_t (a := i) (b := 34) (by omega) (by omega) hc
      omega
    · have hc := c2_ge_f (a := i) (b := 34) (by omega) (by omega) hc
      refine ar_go M_M_removePair 1 _ 19 _ [some (.ref 56), some (.int (nI ds)), some (.int (nI i))] _ [.ref 56] rfl ?_
      refine ar_get M_M_removePair rfl rfl h56 rfl ?_
      refine ar_go M_M_removePair 3 _ 26 _ [some (.ref 56), some (.int (nI ds)), some (.int (nI i))] _ [.int (nI 34 * nI ds), .ref 64] rfl ?_
      refine ar_top (w := .int (nI (34 * ds))) (congrArg Value.int (pk_mul 34 ds)) ?_
      refine ar_go M_M_removePair 2 _ 28 _ [some (.ref 56), some (.int (nI ds)), some (.int (nI i))] _ [.int (nI (34 * ds) + nI i), .ref 64] rfl ?_
      refine ar_top (w := .int (nI ((34 * ds) + i))) (congrArg Value.int (nI_add (34 * ds) i)) ?_
      refine ar_go M_M_removePair 1 _ 29 _ [some (.ref 56), some (.int (nI ds)), some (.int (nI i))] _ [.ref 56, .int (nI ((34 * ds) + i)), .ref 64] rfl ?_
      refine ar_get M_M_removePair rfl rfl h56 rfl ?_
      refine ar_go M_M_removePair 2 _ 35 _ [some (.ref 56), some (.int (nI ds)), some (.int (nI i))] _ [.ref 56, .int (nI 34), .ref 64, .int (nI ((34 * ds) + i)), .ref 64] rfl ?_
      refine ar_get M_M_removePair rfl rfl h56 rfl ?_
      refine ar_go M_M_removePair 1 _ 39 _ [some (.ref 56), some (.int (nI ds)), some (.int (nI i))] _ [.int (nI 34 * nI pp), .ref 64, .int (nI ((34 * ds) + i)), .ref 64] rfl ?_
      refine ar_top (w := .int (nI (34 * pp))) (congrArg Value.int (pk_mul 34 pp)) ?_
      refine ar_go M_M_removePair 2 _ 41 _ [some (.ref 56), some (.int (nI ds)), some (.int (nI i))] _ [.int (nI (34 * pp) + nI i), .ref 64, .int (nI ((34 * ds) + i)), .ref 64] rfl ?_
      refine ar_top (w := .int (nI ((34 * pp) + i))) (congrArg Value.int (nI_add (34 * pp) i)) ?_
      refine ar_lald M_M_removePair rfl h64 (vp_in_nI (by omega) (by decide)) ?_
      rw [nI_clamp (n := ((34 * pp) + i)) (by omega)]
      refine ar_top (w := .long (lN (A (34 * pp + i)))) (congrArg Value.long (congrArg lN (cpA_at A ds pp i (by omega)))) ?_
      refine ar_last M_M_removePair rfl h64 (vp_in_nI (by omega) (by decide)) (fun h2 hf he => ?_)
      rw [nI_clamp (n := ((34 * ds) + i)) (by omega)] at he
      rw [updL_lN] at he
      have h56 := hf.at h56 (by simp only [List.mem_cons, List.not_mem_nil, or_false]; omega)
      have h64 : h2[64]? = some (.inl (1, 612, .inr (.inl (fun z9 => lN ((updN (cpA A ds pp i) ((34 * ds) + i) (A (34 * pp + i))) z9))))) := he
      rw [cpA_up] at h64
      refine ar_go M_M_removePair 1 _ 46 _ [some (.ref 56), some (.int (nI ds)), some (.int (nI i + Int32.ofInt 1))] _ [] rfl ?_
      rw [show nI i + Int32.ofInt 1 = nI (i + 1) from nI_add i 1]
      refine ar_go M_M_removePair 1 _ 12 _ [some (.ref 56), some (.int (nI ds)), some (.int (nI (i + 1)))] _ [] rfl ?_
      exact ih (i + 1) h2 (by omega) h56 h64 (hF.tr hf (fun _ z => z) (fun _ z => z))
theorem c_M_removePair (X : am_X) (d : Nat) (h : am_H) {s : Int64} {ud ld uD lD nd tn : Int32} {A : Nat → Nat} {ds pp : Nat} (hds : ds < 18) (hpp : pp < 18) (h56 : isM0 h s ud ld (nI (pp + 1)) uD lD nd tn) (h64 : isLA h 64 612 A) : ar Pg X d n_M_removePair 0 [some (.ref 56), some (.int (nI ds)), none] [] h (fun rr h' => rr = none ∧ fr [56, 64] h h' ∧ isM0 h' s ud ld (nI pp) uD lD nd tn ∧ isLA h' 64 612 (cpA A ds pp 34)) := by
  unfold isM0 at h56
  refine ar_go M_M_removePair 2 _ 2 _ [some (.ref 56), some (.int (nI ds)), none] _ [.ref 56, .ref 56] rfl ?_
  refine ar_get M_M_removePair rfl rfl h56 rfl ?_
  refine ar_go M_M_removePair 2 _ 7 _ [some (.ref 56), some (.int (nI ds)), none] _ [.int (nI (pp + 1) - nI 1), .ref 56] rfl ?_
  refine ar_top (w := .int (nI pp)) (congrArg Value.int (nI_pred pp)) ?_
  refine ar_put M_M_removePair rfl rfl h56 (Nat.le_of_ble_eq_true rfl) rfl (Nat.le_of_ble_eq_true rfl) (fun h2 hf he => ?_)
  have h56 : h2[56]? = some (.inr (5, [.ref 57, .ref 58, .ref 59, .ref 60, .ref 61, .long s, .ref 62, .ref 63, .int ud, .int ld, .int (nI pp), .ref 64, .ref 65, .ref 66, .ref 67, .int uD, .int lD, .ref 68, .ref 69, .ref 70, .int nd, .int tn, .ref 71, .ref 72, .ref 73, .ref 74, .ref 75])) := he
  have k1 := hf
  refine ar_go M_M_removePair 2 _ 12 _ [some (.ref 56), some (.int (nI ds)), some (.int (nI 0))] _ [] rfl ?_
  refine ar_mono (c_M_rp_loop X d h2 (A := A) (ds := ds) (pp := pp) hds hpp 34 0 h2 rfl h56 (by rw [cpA_0]; exact k1.at h64 (by simp)) (fr.rf _ _)) (fun rr h' ⟨a, b, c⟩ => ⟨a, k1.tr b (by simp) (by simp), b.at h56 (by simp), c⟩)
def z0A (A : Nat → Nat) : Nat → Nat → Nat
  | 0 => A
  | n + 1 => updN (z0A A n) n 0
def o1A (A : Nat → Nat) : Nat → Nat → Nat
  | 0 => A
  | n + 1 => updN (o1A A n) (34 * n + n) 1
def o2A (A : Nat → Nat) (u : Nat) : Nat → Nat → Nat
  | 0 => A
  | n + 1 => updN (o2A A u n) (34 * (u + 1 + n) + 17 + n) 1
def apA (A : Nat → Nat) (u l : Nat) : Nat → Nat := o2A (o1A (z0A A (34 * (u + l + 2))) (u + 1)) u (l + 1)
theorem c_M_ap_1 (X : am_X) (d : Nat) (h : am_H) {s : Int64} {ud ld nd tn : Int32} {A : Nat → Nat} {u l : Nat} (hul : u + l ≤ 16) {Q : Option Value → am_H → Prop} (K : ∀ h1 : am_H, isM0 h1 s ud ld (nI (u + l + 2)) (nI u) (nI l) nd tn → isLA h1 64 612 (z0A A (34 * (u + l + 2))) → fr [64] h h1 → ar Pg X d n_M_allPairs 41 [some (.ref 56), some (.int (nI (34 * (u + l + 2))))] [] h1 Q) : ∀ (n i : Nat) (h1 : am_H), 34 * (u + l + 2) - i < n → i ≤ 34 * (u + l + 2) → isM0 h1 s ud ld (nI (u + l + 2)) (nI u) (nI l) nd tn → isLA h1 64 612 (z0A A i) → fr [64] h h1 → ar Pg X d n_M_allPairs 17 [some (.ref 56), some (.int (nI i))] [] h1 Q := by
  intro n
  induction n with
  | zero => intro i h1 hi; omega
  | succ n ih =>
    intro i h1 hi hil h56 h64 hF
    have h560 := h56
    unfold isM0 at h56
    unfold isLA at h64
    refine ar_go M_M_allPairs 3 _ 21 _ [some (.ref 56), some (.int (nI i))] _ [.ref 56, .int (nI 34), .int (nI i)] rfl ?_
    refine ar_get M_M_allPairs rfl rfl h56 rfl ?_
    refine ar_go M_M_allPairs 1 _ 25 _ [some (.ref 56), some (.int (nI i))] _ [.int (nI 34 * nI (u + l + 2)), .int (nI i)] rfl ?_
    refine ar_top (w := .int (nI (34 * (u + l + 2)))) (congrArg Value.int (pk_mul 34 (u + l + 2))) ?_
    refine ar_icmp M_M_allPairs rfl rfl (fun hc => ?_) (fun hc => ?_)
    · have hc := c2_ge_t (a := i) (b := (34 * (u + l + 2))) (by omega) (by omega) hc
      have hi2 : i = 34 * (u + l + 2) := by omega
      rw [hi2] at h64 ⊢
      exact K h1 h560 h64 hF
    · have hc := c2_ge_f (a := i) (b := (34 * (u + l + 2))) (by omega) (by omega) hc
      refine ar_go M_M_allPairs 1 _ 29 _ [some (.ref 56), some (.int (nI i))] _ [.ref 56] rfl ?_
      refine ar_get M_M_allPairs rfl rfl h56 rfl ?_
      refine ar_go M_M_allPairs 2 _ 34 _ [some (.ref 56), some (.int (nI i))] _ [.long (lN 0), .int (nI i), .ref 64] rfl ?_
      refine ar_last M_M_allPairs rfl h64 (vp_in_nI (by omega) (by decide)) (fun h2 hf he => ?_)
      rw [nI_clamp (n := i) (by omega)] at he
      rw [updL_lN] at he
      have h56 := hf.at h56 (by simp only [List.mem_cons, List.not_mem_nil, or_false]; omega)
      have h64 : h2[64]? = some (.inl (1, 612, .inr (.inl (fun z9 => lN ((updN (z0A A i) i 0) z9))))) := he
      refine ar_go M_M_allPairs 1 _ 38 _ [some (.ref 56), some (.int (nI i + Int32.ofInt 1))] _ [] rfl ?_
      rw [show nI i + Int32.ofInt 1 = nI (i + 1) from nI_add i 1]
      refine ar_go M_M_allPairs 1 _ 17 _ [some (.ref 56), some (.int (nI (i + 1)))] _ [] rfl ?_
      exact ih (i + 1) h2 (by omega) (by omega) h56 h64 (hF.tr hf (fun _ z => z) (fun _ z => z))
theorem c_M_ap_2 (X : am_X) (d : Nat) (h : am_H) {s : Int64} {ud ld nd tn : Int32} {A : Nat → Nat} {u l : Nat} (hul : u + l ≤ 16) {Q : Option Value → am_H → Prop} (K : ∀ h1 : am_H, isM0 h1 s ud ld (nI (u + l + 2)) (nI u) (nI l) nd tn → isLA h1 64 612 (o1A A (u + 1)) → fr [64] h h1 → ar Pg X d n_M_allPairs 71 [some (.ref 56), some (.int (nI (u + 1)))] [] h1 Q) : ∀ (n i : Nat) (h1 : am_H), u + 1 - i < n → i ≤ u + 1 → isM0 h1 s ud ld (nI (u + l + 2)) (nI u) (nI l) nd tn → isLA h1 64 612 (o1A A i) → fr [64] h h1 → ar Pg X d n_M_allPairs 43 [some (.ref 56), some (.int (nI i))] [] h1 Q := by
  intro n
  induction n with
  | zero => intro i h1 hi; omega
  | succ n ih =>
    intro i h1 hi hil h56 h64 hF
    have h560 := h56
    unfold isM0 at h56
    unfold isLA at h64
    refine ar_go M_M_allPairs 2 _ 45 _ [some (.ref 56), some (.int (nI i))] _ [.ref 56, .int (nI i)] rfl ?_
    refine ar_get M_M_allPairs rfl rfl h56 rfl ?_
    refine ar_icmp M_M_allPairs rfl rfl (fun hc => ?_) (fun hc => ?_)
    · have hc := c2_gt_t (a := i) (b := u) (by omega) (by omega) hc
      have hi2 : i = u + 1 := by omega
      rw [hi2] at h64 ⊢
      exact K h1 h560 h64 hF
    · have hc := c2_gt_f (a := i) (b := u) (by omega) (by omega) hc
      refine ar_go M_M_allPairs 1 _ 52 _ [some (.ref 56), some (.int (nI i))] _ [.ref 56] rfl ?_
      refine ar_get M_M_allPairs rfl rfl h56 rfl ?_
      refine ar_go M_M_allPairs 3 _ 59 _ [some (.ref 56), some (.int (nI i))] _ [.int (nI 34 * nI i), .ref 64] rfl ?_
      refine ar_top (w := .int (nI (34 * i))) (congrArg Value.int (pk_mul 34 i)) ?_
      refine ar_go M_M_allPairs 2 _ 61 _ [some (.ref 56), some (.int (nI i))] _ [.int (nI (34 * i) + nI 0), .ref 64] rfl ?_
      refine ar_top (w := .int (nI ((34 * i) + 0))) (congrArg Value.int (nI_add (34 * i) 0)) ?_
      refine ar_go M_M_allPairs 2 _ 63 _ [some (.ref 56), some (.int (nI i))] _ [.int (nI ((34 * i) + 0) + nI i), .ref 64] rfl ?_
      refine ar_top (w := .int (nI (((34 * i) + 0) + i))) (congrArg Value.int (nI_add ((34 * i) + 0) i)) ?_
      refine ar_go M_M_allPairs 1 _ 64 _ [some (.ref 56), some (.int (nI i))] _ [.long (lN 1), .int (nI (((34 * i) + 0) + i)), .ref 64] rfl ?_
      refine ar_last M_M_allPairs rfl h64 (vp_in_nI (by omega) (by decide)) (fun h2 hf he => ?_)
      rw [nI_clamp (n := (((34 * i) + 0) + i)) (by omega)] at he
      rw [updL_lN] at he
      have h56 := hf.at h56 (by simp only [List.mem_cons, List.not_mem_nil, or_false]; omega)
      have h64 : h2[64]? = some (.inl (1, 612, .inr (.inl (fun z9 => lN ((updN (o1A A i) (((34 * i) + 0) + i) 1) z9))))) := he
      refine ar_go M_M_allPairs 1 _ 68 _ [some (.ref 56), some (.int (nI i + Int32.ofInt 1))] _ [] rfl ?_
      rw [show nI i + Int32.ofInt 1 = nI (i + 1) from nI_add i 1]
      refine ar_go M_M_allPairs 1 _ 43 _ [some (.ref 56), some (.int (nI (i + 1)))] _ [] rfl ?_
      exact ih (i + 1) h2 (by omega) (by omega) h56 h64 (hF.tr hf (fun _ z => z) (fun _ z => z))
theorem c_M_ap_3 (X : am_X) (d : Nat) (h : am_H) {s : Int64} {ud ld nd tn : Int32} {A : Nat → Nat} {u l : Nat} (hul : u + l ≤ 16) {Q : Option Value → am_H → Prop} (K : ∀ h1 : am_H, isM0 h1 s ud ld (nI (u + l + 2)) (nI u) (nI l) nd tn → isLA h1 64 612 (o2A A u (l + 1)) → fr [64] h h1 → ar Pg X d n_M_allPairs 109 [some (.ref 56), some (.int (nI (l + 1)))] [] h1 Q) : ∀ (n i : Nat) (h1 : am_H), l + 1 - i < n → i ≤ l + 1 → isM0 h1 s ud ld (nI (u + l + 2)) (nI u) (nI l) nd tn → isLA h1 64 612 (o2A A u i) → fr [64] h h1 → ar Pg X d n_M_allPairs 73 [some (.ref 56), some (.int (nI i))] [] h1 Q := by
  intro n
  induction n with
  | zero => intro i h1 hi; omega
  | succ n ih =>
    intro i h1 hi hil h56 h64 hF
    have h560 := h56
    unfold isM0 at h56
    unfold isLA at h64
    refine ar_go M_M_allPairs 2 _ 75 _ [some (.ref 56), some (.int (nI i))] _ [.ref 56, .int (nI i)] rfl ?_
    refine ar_get M_M_allPairs rfl rfl h56 rfl ?_
    refine ar_icmp M_M_allPairs rfl rfl (fun hc => ?_) (fun hc => ?_)
    · have hc := c2_gt_t (a := i) (b := l) (by omega) (by omega) hc
      have hi2 : i = l + 1 := by omega
      rw [hi2] at h64 ⊢
      exact K h1 h560 h64 hF
    · have hc := c2_gt_f (a := i) (b := l) (by omega) (by omega) hc
      refine ar_go M_M_allPairs 1 _ 82 _ [some (.ref 56), some (.int (nI i))] _ [.ref 56] rfl ?_
      refine ar_get M_M_allPairs rfl rfl h56 rfl ?_
      refine ar_go M_M_allPairs 2 _ 88 _ [some (.ref 56), some (.int (nI i))] _ [.ref 56, .int (nI 34), .ref 64] rfl ?_
      refine ar_get M_M_allPairs rfl rfl h56 rfl ?_
      refine ar_go M_M_allPairs 2 _ 93 _ [some (.ref 56), some (.int (nI i))] _ [.int (nI u + nI 1), .int (nI 34), .ref 64] rfl ?_
      refine ar_top (w := .int (nI (u + 1))) (congrArg Value.int (nI_add u 1)) ?_
      refine ar_go M_M_allPairs 2 _ 95 _ [some (.ref 56), some (.int (nI i))] _ [.int (nI (u + 1) + nI i), .int (nI 34), .ref 64] rfl ?_
      refine ar_top (w := .int (nI ((u + 1) + i))) (congrArg Value.int (nI_add (u + 1) i)) ?_
      refine ar_go M_M_allPairs 1 _ 96 _ [some (.ref 56), some (.int (nI i))] _ [.int (nI 34 * nI ((u + 1) + i)), .ref 64] rfl ?_
      refine ar_top (w := .int (nI (34 * ((u + 1) + i)))) (congrArg Value.int (pk_mul 34 ((u + 1) + i))) ?_
      refine ar_go M_M_allPairs 2 _ 99 _ [some (.ref 56), some (.int (nI i))] _ [.int (nI (34 * ((u + 1) + i)) + nI 17), .ref 64] rfl ?_
      refine ar_top (w := .int (nI ((34 * ((u + 1) + i)) + 17))) (congrArg Value.int (nI_add (34 * ((u + 1) + i)) 17)) ?_
      refine ar_go M_M_allPairs 2 _ 101 _ [some (.ref 56), some (.int (nI i))] _ [.int (nI ((34 * ((u + 1) + i)) + 17) + nI i), .ref 64] rfl ?_
      refine ar_top (w := .int (nI (((34 * ((u + 1) + i)) + 17) + i))) (congrArg Value.int (nI_add ((34 * ((u + 1) + i)) + 17) i)) ?_
      refine ar_go M_M_allPairs 1 _ 102 _ [some (.ref 56), some (.int (nI i))] _ [.long (lN 1), .int (nI (((34 * ((u + 1) + i)) + 17) + i)), .ref 64] rfl ?_
      refine ar_last M_M_allPairs rfl h64 (vp_in_nI (by omega) (by decide)) (fun h2 hf he => ?_)
      rw [nI_clamp (n := (((34 * ((u + 1) + i)) + 17) + i)) (by omega)] at he
      rw [updL_lN] at he
      have h56 := hf.at h56 (by simp only [List.mem_cons, List.not_mem_nil, or_false]; omega)
      have h64 : h2[64]? = some (.inl (1, 612, .inr (.inl (fun z9 => lN ((updN (o2A A u i) (((34 * ((u + 1) + i)) + 17) + i) 1) z9))))) := he
      refine ar_go M_M_allPairs 1 _ 106 _ [some (.ref 56), some (.int (nI i + Int32.ofInt 1))] _ [] rfl ?_
      rw [show nI i + Int32.ofInt 1 = nI (i + 1) from nI_add i 1]
      refine ar_go M_M_allPairs 1 _ 73 _ [some (.ref 56), some (.int (nI (i + 1)))] _ [] rfl ?_
      exact ih (i + 1) h2 (by omega) (by omega) h56 h64 (hF.tr hf (fun _ z => z) (fun _ z => z))
theorem c_M_allPairs (X : am_X) (d : Nat) (h : am_H) {s : Int64} {ud ld pr nd tn : Int32} {A : Nat → Nat} {u l : Nat} (hul : u + l ≤ 16) (h56 : isM0 h s ud ld pr (nI u) (nI l) nd tn) (h64 : isLA h 64 612 A) : ar Pg X d n_M_allPairs 0 [some (.ref 56), none] [] h (fun rr h' => rr = none ∧ fr [56, 64] h h' ∧ isM0 h' s ud ld (nI (u + l + 2)) (nI u) (nI l) nd tn ∧ isLA h' 64 612 (apA A u l)) := by
  unfold isM0 at h56
  refine ar_go M_M_allPairs 2 _ 2 _ [some (.ref 56), none] _ [.ref 56, .ref 56] rfl ?_
  refine ar_get M_M_allPairs rfl rfl h56 rfl ?_
  refine ar_go M_M_allPairs 1 _ 6 _ [some (.ref 56), none] _ [.ref 56, .int (nI u), .ref 56] rfl ?_
  refine ar_get M_M_allPairs rfl rfl h56 rfl ?_
  refine ar_go M_M_allPairs 1 _ 10 _ [some (.ref 56), none] _ [.int (nI u + nI l), .ref 56] rfl ?_
  refine ar_top (w := .int (nI (u + l))) (congrArg Value.int (nI_add u l)) ?_
  refine ar_go M_M_allPairs 2 _ 12 _ [some (.ref 56), none] _ [.int (nI (u + l) + nI 2), .ref 56] rfl ?_
  refine ar_top (w := .int (nI ((u + l) + 2))) (congrArg Value.int (nI_add (u + l) 2)) ?_
  refine ar_put M_M_allPairs rfl rfl h56 (Nat.le_of_ble_eq_true rfl) rfl (Nat.le_of_ble_eq_true rfl) (fun h2 hf he => ?_)
  have h56 : h2[56]? = some (.inr (5, [.ref 57, .ref 58, .ref 59, .ref 60, .ref 61, .long s, .ref 62, .ref 63, .int ud, .int ld, .int (nI ((u + l) + 2)), .ref 64, .ref 65, .ref 66, .ref 67, .int (nI u), .int (nI l), .ref 68, .ref 69, .ref 70, .int nd, .int tn, .ref 71, .ref 72, .ref 73, .ref 74, .ref 75])) := he
  have k1 := hf
  refine ar_go M_M_allPairs 2 _ 17 _ [some (.ref 56), some (.int (nI 0))] _ [] rfl ?_
  refine c_M_ap_1 X d h2 (A := A) hul ?_ (34 * (u + l + 2) + 1) 0 h2 (by omega) (by omega) h56 (k1.at h64 (by simp)) (fr.rf _ _)
  intro h3 h563 h643 hF3
  refine ar_go M_M_allPairs 2 _ 43 _ [some (.ref 56), some (.int (nI 0))] _ [] rfl ?_
  refine c_M_ap_2 X d h3 hul ?_ (u + 1 + 1) 0 h3 (by omega) (by omega) h563 h643 (fr.rf _ _)
  intro h4 h564 h644 hF4
  refine ar_go M_M_allPairs 2 _ 73 _ [some (.ref 56), some (.int (nI 0))] _ [] rfl ?_
  refine c_M_ap_3 X d h4 hul ?_ (l + 1 + 1) 0 h4 (by omega) (by omega) h564 h644 (fr.rf _ _)
  intro h5 h565 h645 hF5
  exact ar_R M_M_allPairs rfl rfl rfl rfl (⟨rfl, k1.tr (hF3.tr (hF4.tr hF5 (l := [64]) (by simp) (by simp)) (l := [64]) (by simp) (by simp)) (by simp) (by simp), h565, h645⟩)
