/-! The reference's sieve: cells 34 * pair + i -/
def ltS (A : Nat → Nat) : Prop := ∀ j, j < 612 → A j < 2147483647
def scA (A : Nat → Nat) (r f i : Nat) : Nat → Nat := fun j => if 34 * r ≤ j ∧ j < 34 * r + i then A j * f % 2147483647 else A j
def tkA (A : Nat → Nat) (fm pr f i : Nat) : Nat → Nat := fun j => if 34 * fm ≤ j ∧ j < 34 * fm + i then (A j + 2147483647 - f * A (34 * pr + (j - 34 * fm)) % 2147483647) % 2147483647 else A j
def cpA (A : Nat → Nat) (ds sr i : Nat) : Nat → Nat := fun j => if 34 * ds ≤ j ∧ j < 34 * ds + i then A (34 * sr + (j - 34 * ds)) else A j
theorem scA_up (A : Nat → Nat) (r f i : Nat) : updN (scA A r f i) (34 * r + i) (A (34 * r + i) * f % 2147483647) = scA A r f (i + 1) := by
  funext j
  unfold updN scA
  by_cases e : j = 34 * r + i
  · subst e
    rw [if_pos rfl, if_pos ⟨by omega, by omega⟩]
    try rw [Nat.add_sub_cancel_left]
  · rw [if_neg e]
    by_cases c : 34 * r ≤ j ∧ j < 34 * r + i
    · rw [if_pos c, if_pos ⟨c.1, by omega⟩]
    · rw [if_neg c, if_neg (fun z => c ⟨z.1, by omega⟩)]
theorem scA_0 (A : Nat → Nat) (r f : Nat) : scA A r f 0 = A := by
  funext j
  unfold scA
  rw [if_neg (fun z => by omega)]
theorem scA_at (A : Nat → Nat) (r f i : Nat) {j : Nat} (h : ¬ (34 * r ≤ j ∧ j < 34 * r + i)) : scA A r f i j = A j := by
  unfold scA
  rw [if_neg h]
theorem tkA_up (A : Nat → Nat) (fm pr f i : Nat) : updN (tkA A fm pr f i) (34 * fm + i) ((A (34 * fm + i) + 2147483647 - f * A (34 * pr + i) % 2147483647) % 2147483647) = tkA A fm pr f (i + 1) := by
  funext j
  unfold updN tkA
  by_cases e : j = 34 * fm + i
  · subst e
    rw [if_pos rfl, if_pos ⟨by omega, by omega⟩]
    try rw [Nat.add_sub_cancel_left]
  · rw [if_neg e]
    by_cases c : 34 * fm ≤ j ∧ j < 34 * fm + i
    · rw [if_pos c, if_pos ⟨c.1, by omega⟩]
    · rw [if_neg c, if_neg (fun z => c ⟨z.1, by omega⟩)]
theorem tkA_0 (A : Nat → Nat) (fm pr f : Nat) : tkA A fm pr f 0 = A := by
  funext j
  unfold tkA
  rw [if_neg (fun z => by omega)]
theorem tkA_at (A : Nat → Nat) (fm pr f i : Nat) {j : Nat} (h : ¬ (34 * fm ≤ j ∧ j < 34 * fm + i)) : tkA A fm pr f i j = A j := by
  unfold tkA
  rw [if_neg h]
theorem cpA_up (A : Nat → Nat) (ds sr i : Nat) : updN (cpA A ds sr i) (34 * ds + i) (A (34 * sr + i)) = cpA A ds sr (i + 1) := by
  funext j
  unfold updN cpA
  by_cases e : j = 34 * ds + i
  · subst e
    rw [if_pos rfl, if_pos ⟨by omega, by omega⟩]
    try rw [Nat.add_sub_cancel_left]
  · rw [if_neg e]
    by_cases c : 34 * ds ≤ j ∧ j < 34 * ds + i
    · rw [if_pos c, if_pos ⟨c.1, by omega⟩]
    · rw [if_neg c, if_neg (fun z => c ⟨z.1, by omega⟩)]
theorem cpA_0 (A : Nat → Nat) (ds sr : Nat) : cpA A ds sr 0 = A := by
  funext j
  unfold cpA
  rw [if_neg (fun z => by omega)]
theorem cpA_at (A : Nat → Nat) (ds sr i : Nat) {j : Nat} (h : ¬ (34 * ds ≤ j ∧ j < 34 * ds + i)) : cpA A ds sr i j = A j := by
  unfold cpA
  rw [if_neg h]
theorem scA_lt {A : Nat → Nat} (h : ltS A) (r f i : Nat) : ltS (scA A r f i) := by
  intro j hj
  unfold scA
  split
  · exact Nat.mod_lt _ (by decide)
  · exact h j hj
theorem tkA_lt {A : Nat → Nat} (h : ltS A) (fm pr f i : Nat) : ltS (tkA A fm pr f i) := by
  intro j hj
  unfold tkA
  split
  · exact Nat.mod_lt _ (by decide)
  · exact h j hj
theorem cpA_lt {A : Nat → Nat} (h : ltS A) {ds sr : Nat} (hs : sr < 18) {i : Nat} (hi : i ≤ 34) : ltS (cpA A ds sr i) := by
  intro j hj
  unfold cpA
  split
  · exact h _ (by omega)
  · exact h j hj
theorem c_M_sc_loop (X : am_X) (d : Nat) (h : am_H) {s : Int64} {ud ld pr uD lD nd tn : Int32} {A : Nat → Nat} (hl : ltS A) {r f : Nat} (hr : r < 18) (hf31 : f < 2147483648) : ∀ (n i : Nat) (h1 : am_H), i + n = 34 → isM0 h1 s ud ld pr uD lD nd tn → isLA h1 64 612 (scA A r f i) → fr [64] h h1 → ar Pg X (d + 1) n_M_scale 6 [some (.ref 56), some (.int (nI r)), some (.long (lN f)), none, some (.int (nI (34 * r + i)))] [] h1 (fun rr h' => rr = none ∧ fr [64] h h' ∧ isLA h' 64 612 (scA A r f 34)) := by
  intro n
  induction n with
  | zero =>
    intro i h1 hi h56 h64 hF
    have hi34 : i = 34 := by omega
    subst hi34
    unfold isM0 at h56
    refine ar_go M_M_scale 4 _ 12 _ [some (.ref 56), some (.int (nI r)), some (.long (lN f)), none, some (.int (nI (34 * r + 34)))] _ [.int (nI 34 * nI r), .int (nI (34 * r + 34))] rfl ?_
    refine ar_top (w := .int (nI (34 * r))) (congrArg Value.int (pk_mul 34 r)) ?_
    refine ar_go M_M_scale 2 _ 15 _ [some (.ref 56), some (.int (nI r)), some (.long (lN f)), none, some (.int (nI (34 * r + 34)))] _ [.int (nI (34 * r) + nI 34), .int (nI (34 * r + 34))] rfl ?_
    refine ar_top (w := .int (nI ((34 * r) + 34))) (congrArg Value.int (nI_add (34 * r) 34)) ?_
    refine ar_icmp M_M_scale rfl rfl (fun hc => ?_) (fun hc => ?_)
    · have hc := c2_ge_t (a := (34 * r + 34)) (b := ((34 * r) + 34)) (by omega) (by omega) hc
      exact ar_R M_M_scale rfl rfl rfl rfl (⟨rfl, hF, h64⟩)
    · have hc := c2_ge_f (a := (34 * r + 34)) (b := ((34 * r) + 34)) (by omega) (by omega) hc
      omega
  | succ n ih =>
    intro i h1 hi h56 h64 hF
    have h560 := h56
    unfold isM0 at h56
    unfold isLA at h64
    refine ar_go M_M_scale 4 _ 12 _ [some (.ref 56), some (.int (nI r)), some (.long (lN f)), none, some (.int (nI (34 * r + i)))] _ [.int (nI 34 * nI r), .int (nI (34 * r + i))] rfl ?_
    refine ar_top (w := .int (nI (34 * r))) (congrArg Value.int (pk_mul 34 r)) ?_
    refine ar_go M_M_scale 2 _ 15 _ [some (.ref 56), some (.int (nI r)), some (.long (lN f)), none, some (.int (nI (34 * r + i)))] _ [.int (nI (34 * r) + nI 34), .int (nI (34 * r + i))] rfl ?_
    refine ar_top (w := .int (nI ((34 * r) + 34))) (congrArg Value.int (nI_add (34 * r) 34)) ?_
    refine ar_icmp M_M_scale rfl rfl (fun hc => ?_) (fun hc => ?_)
    · have hc := c2_ge_t (a := (34 * r + i)) (b := ((34 * r) + 34)) (by omega) (by omega) hc
      omega
    · have hc := c2_ge_f (a := (34 * r + i)) (b := ((34 * r) + 34)) (by omega) (by omega) hc
      have ha := hl (34 * r + i) (by omega)
      refine ar_go M_M_scale 1 _ 19 _ [some (.ref 56), some (.int (nI r)), some (.long (lN f)), none, some (.int (nI (34 * r + i)))] _ [.ref 56] rfl ?_
      refine ar_get M_M_scale rfl rfl h56 rfl ?_
      refine ar_go M_M_scale 2 _ 25 _ [some (.ref 56), some (.int (nI r)), some (.long (lN f)), none, some (.int (nI (34 * r + i)))] _ [.ref 56, .int (nI (34 * r + i)), .ref 64] rfl ?_
      refine ar_get M_M_scale rfl rfl h56 rfl ?_
      refine ar_go M_M_scale 1 _ 30 _ [some (.ref 56), some (.int (nI r)), some (.long (lN f)), none, some (.int (nI (34 * r + i)))] _ [.int (nI (34 * r + i)), .ref 64, .int (nI (34 * r + i)), .ref 64] rfl ?_
      refine ar_lald M_M_scale rfl h64 (vp_in_nI (by omega) (by decide)) ?_
      rw [nI_clamp (n := (34 * r + i)) (by omega)]
      refine ar_top (w := .long (lN (A (34 * r + i)))) (congrArg Value.long (congrArg lN (scA_at A r f i (by omega)))) ?_
      refine ar_go M_M_scale 1 _ 32 _ [some (.ref 56), some (.int (nI r)), some (.long (lN f)), none, some (.int (nI (34 * r + i)))] _ [.long (lN f), .long (lN (A (34 * r + i))), .int (nI (34 * r + i)), .ref 64] rfl ?_
      refine ar_CS M_M_scale rfl rfl (Nat.le_of_ble_eq_true rfl) rfl rfl (Nat.le_of_ble_eq_true rfl) M_M_mul (Nat.le_of_ble_eq_true rfl) (c_M_mul X d _ (by omega) hf31) (fun r1 h1 hq => ?_)
      obtain ⟨rfl, rfl⟩ := hq
      refine ⟨rfl, ?_⟩
      show ar Pg _ _ _ 35 [some (.ref 56), some (.int (nI r)), some (.long (lN f)), none, some (.int (nI (34 * r + i)))] [.long (lN (A (34 * r + i) * f % 2147483647)), .int (nI (34 * r + i)), .ref 64] _ _
      refine ar_last M_M_scale rfl h64 (vp_in_nI (by omega) (by decide)) (fun h2 hf he => ?_)
      rw [nI_clamp (n := (34 * r + i)) (by omega)] at he
      rw [updL_lN] at he
      have h56 := hf.at h56 (by simp only [List.mem_cons, List.not_mem_nil, or_false]; omega)
      have h64 : h2[64]? = some (.inl (1, 612, .inr (.inl (fun z9 => lN ((updN (scA A r f i) (34 * r + i) (A (34 * r + i) * f % 2147483647)) z9))))) := he
      rw [scA_up] at h64
      refine ar_go M_M_scale 1 _ 39 _ [some (.ref 56), some (.int (nI r)), some (.long (lN f)), none, some (.int (nI (34 * r + i) + Int32.ofInt 1))] _ [] rfl ?_
      rw [show nI (34 * r + i) + Int32.ofInt 1 = nI ((34 * r + i) + 1) from nI_add (34 * r + i) 1]
      refine ar_go M_M_scale 1 _ 6 _ [some (.ref 56), some (.int (nI r)), some (.long (lN f)), none, some (.int (nI ((34 * r + i) + 1)))] _ [] rfl ?_
      exact ih (i + 1) h2 (by omega) h56 h64 (hF.tr hf (fun _ z => z) (fun _ z => z))
theorem c_M_scale (X : am_X) (d : Nat) (h : am_H) {s : Int64} {ud ld pr uD lD nd tn : Int32} {A : Nat → Nat} (hl : ltS A) {r f : Nat} (hr : r < 18) (hf31 : f < 2147483648) (h56 : isM0 h s ud ld pr uD lD nd tn) (h64 : isLA h 64 612 A) : ar Pg X (d + 1) n_M_scale 0 [some (.ref 56), some (.int (nI r)), some (.long (lN f)), none, none] [] h (fun rr h' => rr = none ∧ fr [64] h h' ∧ isLA h' 64 612 (scA A r f 34)) := by
  refine ar_go M_M_scale 3 _ 4 _ [some (.ref 56), some (.int (nI r)), some (.long (lN f)), none, none] _ [.int (nI 34 * nI r)] rfl ?_
  refine ar_top (w := .int (nI (34 * r))) (congrArg Value.int (pk_mul 34 r)) ?_
  refine ar_go M_M_scale 1 _ 6 _ [some (.ref 56), some (.int (nI r)), some (.long (lN f)), none, some (.int (nI (34 * r)))] _ [] rfl ?_
  exact c_M_sc_loop X d h hl hr hf31 34 0 h rfl h56 (by rw [scA_0]; exact h64) (fr.rf _ _)
theorem c_M_tk_loop (X : am_X) (d : Nat) (h : am_H) {s : Int64} {ud ld pr uD lD nd tn : Int32} {A : Nat → Nat} (hl : ltS A) {fm pp f : Nat} (hfm : fm < 18) (hpp : pp < 18) (hne : fm ≠ pp) (hf31 : f < 2147483648) : ∀ (n i : Nat) (h1 : am_H), i + n = 34 → isM0 h1 s ud ld pr uD lD nd tn → isLA h1 64 612 (tkA A fm pp f i) → fr [64] h h1 → ar Pg X (d + 1) n_M_take 3 [some (.ref 56), some (.int (nI fm)), some (.int (nI pp)), some (.long (lN f)), none, some (.int (nI i))] [] h1 (fun rr h' => rr = none ∧ fr [64] h h' ∧ isLA h' 64 612 (tkA A fm pp f 34)) := by
  intro n
  induction n with
  | zero =>
    intro i h1 hi h56 h64 hF
    have hi34 : i = 34 := by omega
    subst hi34
    unfold isM0 at h56
    refine ar_go M_M_take 2 _ 7 _ [some (.ref 56), some (.int (nI fm)), some (.int (nI pp)), some (.long (lN f)), none, some (.int (nI 34))] _ [.int (nI 34), .int (nI 34)] rfl ?_
    refine ar_icmp M_M_take rfl rfl (fun _ => ?_) (fun z => absurd z (by decide))
    exact ar_R M_M_take rfl rfl rfl rfl (⟨rfl, hF, h64⟩)
  | succ n ih =>
    intro i h1 hi h56 h64 hF
    have h560 := h56
    unfold isM0 at h56
    unfold isLA at h64
    refine ar_go M_M_take 2 _ 7 _ [some (.ref 56), some (.int (nI fm)), some (.int (nI pp)), some (.long (lN f)), none, some (.int (nI i))] _ [.int (nI 34), .int (nI i)] rfl ?_
    refine ar_icmp M_M_take rfl rfl (fun hc => ?_) (fun hc => ?_)
    · have hc := c2_ge_t (a := i) (b := 34) (by omega) (by omega) hc
      omega
    · have hc := c2_ge_f (a := i) (b := 34) (by omega) (by omega) hc
      have ha := hl (34 * fm + i) (by omega)
      have hb := hl (34 * pp + i) (by omega)
      refine ar_go M_M_take 1 _ 11 _ [some (.ref 56), some (.int (nI fm)), some (.int (nI pp)), some (.long (lN f)), none, some (.int (nI i))] _ [.ref 56] rfl ?_
      refine ar_get M_M_take rfl rfl h56 rfl ?_
      refine ar_go M_M_take 3 _ 18 _ [some (.ref 56), some (.int (nI fm)), some (.int (nI pp)), some (.long (lN f)), none, some (.int (nI i))] _ [.int (nI 34 * nI fm), .ref 64] rfl ?_
      refine ar_top (w := .int (nI (34 * fm))) (congrArg Value.int (pk_mul 34 fm)) ?_
      refine ar_go M_M_take 2 _ 21 _ [some (.ref 56), some (.int (nI fm)), some (.int (nI pp)), some (.long (lN f)), none, some (.int (nI i))] _ [.int (nI (34 * fm) + nI i), .ref 64] rfl ?_
      refine ar_top (w := .int (nI ((34 * fm) + i))) (congrArg Value.int (nI_add (34 * fm) i)) ?_
      refine ar_go M_M_take 1 _ 22 _ [some (.ref 56), some (.int (nI fm)), some (.int (nI pp)), some (.long (lN f)), none, some (.int (nI i))] _ [.ref 56, .int (nI ((34 * fm) + i)), .ref 64] rfl ?_
      refine ar_get M_M_take rfl rfl h56 rfl ?_
      refine ar_go M_M_take 3 _ 29 _ [some (.ref 56), some (.int (nI fm)), some (.int (nI pp)), some (.long (lN f)), none, some (.int (nI i))] _ [.int (nI 34 * nI fm), .ref 64, .int (nI ((34 * fm) + i)), .ref 64] rfl ?_
      refine ar_top (w := .int (nI (34 * fm))) (congrArg Value.int (pk_mul 34 fm)) ?_
      refine ar_go M_M_take 2 _ 32 _ [some (.ref 56), some (.int (nI fm)), some (.int (nI pp)), some (.long (lN f)), none, some (.int (nI i))] _ [.int (nI (34 * fm) + nI i), .ref 64, .int (nI ((34 * fm) + i)), .ref 64] rfl ?_
      refine ar_top (w := .int (nI ((34 * fm) + i))) (congrArg Value.int (nI_add (34 * fm) i)) ?_
      refine ar_lald M_M_take rfl h64 (vp_in_nI (by omega) (by decide)) ?_
      rw [nI_clamp (n := ((34 * fm) + i)) (by omega)]
      refine ar_top (w := .long (lN (A (34 * fm + i)))) (congrArg Value.long (congrArg lN (tkA_at A fm pp f i (by omega)))) ?_
      refine ar_go M_M_take 2 _ 35 _ [some (.ref 56), some (.int (nI fm)), some (.int (nI pp)), some (.long (lN f)), none, some (.int (nI i))] _ [.ref 56, .long (lN f), .long (lN (A (34 * fm + i))), .int (nI ((34 * fm) + i)), .ref 64] rfl ?_
      refine ar_get M_M_take rfl rfl h56 rfl ?_
      refine ar_go M_M_take 3 _ 42 _ [some (.ref 56), some (.int (nI fm)), some (.int (nI pp)), some (.long (lN f)), none, some (.int (nI i))] _ [.int (nI 34 * nI pp), .ref 64, .long (lN f), .long (lN (A (34 * fm + i))), .int (nI ((34 * fm) + i)), .ref 64] rfl ?_
      refine ar_top (w := .int (nI (34 * pp))) (congrArg Value.int (pk_mul 34 pp)) ?_
      refine ar_go M_M_take 2 _ 45 _ [some (.ref 56), some (.int (nI fm)), some (.int (nI pp)), some (.long (lN f)), none, some (.int (nI i))] _ [.int (nI (34 * pp) + nI i), .ref 64, .long (lN f), .long (lN (A (34 * fm + i))), .int (nI ((34 * fm) + i)), .ref 64] rfl ?_
      refine ar_top (w := .int (nI ((34 * pp) + i))) (congrArg Value.int (nI_add (34 * pp) i)) ?_
      refine ar_lald M_M_take rfl h64 (vp_in_nI (by omega) (by decide)) ?_
      rw [nI_clamp (n := ((34 * pp) + i)) (by omega)]
      refine ar_top (w := .long (lN (A (34 * pp + i)))) (congrArg Value.long (congrArg lN (tkA_at A fm pp f i (by omega)))) ?_
      refine ar_CS M_M_take rfl rfl (Nat.le_of_ble_eq_true rfl) rfl rfl (Nat.le_of_ble_eq_true rfl) M_M_mul (Nat.le_of_ble_eq_true rfl) (c_M_mul X d _ hf31 (by omega)) (fun r1 h1 hq => ?_)
      obtain ⟨rfl, rfl⟩ := hq
      refine ⟨rfl, ?_⟩
      have hmm : f * A (34 * pp + i) % 2147483647 < 2147483647 := Nat.mod_lt _ (by decide)
      show ar Pg _ _ _ 49 [some (.ref 56), some (.int (nI fm)), some (.int (nI pp)), some (.long (lN f)), none, some (.int (nI i))] [.long (lN (f * A (34 * pp + i) % 2147483647)), .long (lN (A (34 * fm + i))), .int (nI ((34 * fm) + i)), .ref 64] _ _
      refine ar_CS M_M_take rfl rfl (Nat.le_of_ble_eq_true rfl) rfl rfl (Nat.le_of_ble_eq_true rfl) M_M_minus (Nat.le_of_ble_eq_true rfl) (c_M_minus X d _ (by omega) (by omega)) (fun r1 h1 hq => ?_)
      obtain ⟨rfl, rfl⟩ := hq
      refine ⟨rfl, ?_⟩
      show ar Pg _ _ _ 52 [some (.ref 56), some (.int (nI fm)), some (.int (nI pp)), some (.long (lN f)), none, some (.int (nI i))] [.long (lN ((A (34 * fm + i) + 2147483647 - f * A (34 * pp + i) % 2147483647) % 2147483647)), .int (nI ((34 * fm) + i)), .ref 64] _ _
      refine ar_last M_M_take rfl h64 (vp_in_nI (by omega) (by decide)) (fun h2 hf he => ?_)
      rw [nI_clamp (n := ((34 * fm) + i)) (by omega)] at he
      rw [updL_lN] at he
      have h56 := hf.at h56 (by simp only [List.mem_cons, List.not_mem_nil, or_false]; omega)
      have h64 : h2[64]? = some (.inl (1, 612, .inr (.inl (fun z9 => lN ((updN (tkA A fm pp f i) ((34 * fm) + i) ((A (34 * fm + i) + 2147483647 - f * A (34 * pp + i) % 2147483647) % 2147483647)) z9))))) := he
      rw [tkA_up] at h64
      refine ar_go M_M_take 1 _ 56 _ [some (.ref 56), some (.int (nI fm)), some (.int (nI pp)), some (.long (lN f)), none, some (.int (nI i + Int32.ofInt 1))] _ [] rfl ?_
      rw [show nI i + Int32.ofInt 1 = nI (i + 1) from nI_add i 1]
      refine ar_go M_M_take 1 _ 3 _ [some (.ref 56), some (.int (nI fm)), some (.int (nI pp)), some (.long (lN f)), none, some (.int (nI (i + 1)))] _ [] rfl ?_
      exact ih (i + 1) h2 (by omega) h56 h64 (hF.tr hf (fun _ z => z) (fun _ z => z))
theorem c_M_take (X : am_X) (d : Nat) (h : am_H) {s : Int64} {ud ld pr uD lD nd tn : Int32} {A : Nat → Nat} (hl : ltS A) {fm pp f : Nat} (hfm : fm < 18) (hpp : pp < 18) (hne : fm ≠ pp) (hf31 : f < 2147483648) (h56 : isM0 h s ud ld pr uD lD nd tn) (h64 : isLA h 64 612 A) : ar Pg X (d + 1) n_M_take 0 [some (.ref 56), some (.int (nI fm)), some (.int (nI pp)), some (.long (lN f)), none, none] [] h (fun rr h' => rr = none ∧ fr [64] h h' ∧ isLA h' 64 612 (tkA A fm pp f 34)) := by
  refine ar_go M_M_take 2 _ 3 _ [some (.ref 56), some (.int (nI fm)), some (.int (nI pp)), some (.long (lN f)), none, some (.int (nI 0))] _ [] rfl ?_
  exact c_M_tk_loop X d h hl hfm hpp hne hf31 34 0 h rfl h56 (by rw [tkA_0]; exact h64) (fr.rf _ _)
