/-! Equations: swapRows, clearColumn, setRow -/
theorem swN_isQ {h h3 : am_H} {ro : Nat → Nat} {c a b : Nat} {M : Nat → Nat → Nat} {uk : Nat → Option Nat} {g : Nat → Option Nat} (hQ : isQ h ro c M uk) (ha : a < 16) (hb : b < 16) (hF : fr [20] h h3) (he : h3[20]? = some (.inl (3, 16, .inr (.inr (.inr (.inr (va_up (va_up g a (some (ro b))) b (some (ro a))))))))) (hg : ∀ i, i < 16 → g i = some (ro i)) : isQ h3 (swN ro a b) c (swM M a b) uk := by
  obtain ⟨q1, -, q4, q5, q6, q7⟩ := hQ
  have row : ∀ i, i < 16 → h3[ro i]? = some (.inl (1, 17, .inr (.inl (fun z9 => lN (M i z9))))) := fun i hi => hF.at (q5 i hi) (by have := q4.1 i hi; simp; omega)
  refine ⟨hF.at q1 (by simp), ⟨_, he, fun i hi => ?_⟩, swN_ok q4 ha hb, fun i hi => ?_, fun i hi => ?_, hF.at q7 (by simp)⟩
  · unfold swN
    by_cases e : i = b
    · subst e; rw [va_up_self, if_pos rfl]
    · rw [va_up_ne _ _ e, if_neg e]
      by_cases e2 : i = a
      · subst e2; rw [va_up_self, if_pos rfl]
      · rw [va_up_ne _ _ e2, if_neg e2, hg i hi]
  · unfold swN swM
    by_cases e : i = b
    · rw [if_pos e, if_pos e]; exact row a ha
    · rw [if_neg e, if_neg e]
      by_cases e2 : i = a
      · rw [if_pos e2, if_pos e2]; exact row b hb
      · rw [if_neg e2, if_neg e2]; exact row i hi
  · unfold swM
    split
    · exact q6 a ha
    · split
      · exact q6 b hb
      · exact q6 i hi
theorem c_Q_swapRows (X : am_X) (d : Nat) (h : am_H) {ro : Nat → Nat} {c a b : Nat} {M : Nat → Nat → Nat} {uk : Nat → Option Nat} (hQ : isQ h ro c M uk) (ha : a < 16) (hb : b < 16) : ar Pg X d n_Q_swapRows 0 [some (.ref 19), some (.int (nI a)), some (.int (nI b)), none] [] h (fun rr h' => rr = none ∧ fr eqL h h' ∧ isQ h' (swN ro a b) c (swM M a b) uk) := by
  have hQ0 := hQ
  obtain ⟨q1, ⟨g, q2, q3⟩, q4, q5, q6, q7⟩ := hQ
  have hab := q4.1 a ha
  have hbb := q4.1 b hb
  refine ar_go M_Q_swapRows 1 _ 1 _ [some (.ref 19), some (.int (nI a)), some (.int (nI b)), none] _ [.ref 19] rfl ?_
  refine ar_get M_Q_swapRows rfl rfl q1 rfl ?_
  refine ar_go M_Q_swapRows 1 _ 5 _ [some (.ref 19), some (.int (nI a)), some (.int (nI b)), none] _ [.int (nI a), .ref 20] rfl ?_
  refine ar_aald M_Q_swapRows rfl q2 (Or.inl rfl) (vp_in_nI (by omega) (by decide)) (by rw [nI_clamp (n := a) (by omega)]; exact q3 a (by omega)) ?_
  have hx1 := q5 a (by omega)
  refine ar_go M_Q_swapRows 2 _ 8 _ [some (.ref 19), some (.int (nI a)), some (.int (nI b)), some (.ref (ro a))] _ [.ref 19] rfl ?_
  refine ar_get M_Q_swapRows rfl rfl q1 rfl ?_
  refine ar_go M_Q_swapRows 2 _ 13 _ [some (.ref 19), some (.int (nI a)), some (.int (nI b)), some (.ref (ro a))] _ [.ref 19, .int (nI a), .ref 20] rfl ?_
  refine ar_get M_Q_swapRows rfl rfl q1 rfl ?_
  refine ar_go M_Q_swapRows 1 _ 17 _ [some (.ref 19), some (.int (nI a)), some (.int (nI b)), some (.ref (ro a))] _ [.int (nI b), .ref 20, .int (nI a), .ref 20] rfl ?_
  refine ar_aald M_Q_swapRows rfl q2 (Or.inl rfl) (vp_in_nI (by omega) (by decide)) (by rw [nI_clamp (n := b) (by omega)]; exact q3 b (by omega)) ?_
  have hx2 := q5 b (by omega)
  refine ar_aast M_Q_swapRows rfl q2 hx2 (vp_in_nI ha (by decide)) (fun h2 hf he => ?_)
  rw [nI_clamp (n := a) (by omega)] at he
  have k1 := hf
  have q1 := hf.at q1 (by simp)
  have hx1 := hf.at hx1 (by simp; omega)
  refine ar_go M_Q_swapRows 1 _ 20 _ [some (.ref 19), some (.int (nI a)), some (.int (nI b)), some (.ref (ro a))] _ [.ref 19] rfl ?_
  refine ar_get M_Q_swapRows rfl rfl q1 rfl ?_
  refine ar_go M_Q_swapRows 2 _ 25 _ [some (.ref 19), some (.int (nI a)), some (.int (nI b)), some (.ref (ro a))] _ [.ref (ro a), .int (nI b), .ref 20] rfl ?_
  refine ar_aast M_Q_swapRows rfl he hx1 (vp_in_nI hb (by decide)) (fun h3 hf he2 => ?_)
  rw [nI_clamp (n := b) (by omega)] at he2
  have hF : fr [20] h h3 := k1.tr hf (by simp) (by simp)
  exact ar_R M_Q_swapRows rfl rfl rfl rfl (⟨rfl, hF.mono (by intro k hk; rw [List.mem_singleton] at hk; rw [mem_eqL, hk]; omega), swN_isQ hQ0 ha hb hF he2 q3⟩)
theorem c_Q_c1_loop (X : am_X) (d : Nat) (h : am_H) {ro : Nat → Nat} {c us col row mu : Nat} {M : Nat → Nat → Nat} {uk : Nat → Option Nat} {Q : Option Value → am_H → Prop} (hc : c < 17) (hus : us < 16) (hrow : row < 16) (hne : us ≠ row) (hcol : col ≤ c) (hmu : mu < 2147483647) (hmu0 : ¬ mu = 0) (hM : ∀ i, i < 16 → lt17 (M i))
    (K : ∀ h1 : am_H, isQ h1 ro c (updM M row (cl1 (M row) (M us) mu col (c + 1 - col))) uk → fr eqL h h1 → ar Pg X (d + 1) n_Q_clearColumn 91 [some (.ref 19), some (.int (nI us)), some (.int (nI col)), some (.ref (ro us)), some (.int (nI row)), some (.ref (ro row)), some (.long (lN mu)), none, some (.int (nI (col + (c + 1 - col))))] [] h1 Q) :
    ∀ (n i : Nat) (h1 : am_H), c + 1 - col - i < n → i ≤ c + 1 - col → isQ h1 ro c (updM M row (cl1 (M row) (M us) mu col i)) uk → fr eqL h h1 → ar Pg X (d + 1) n_Q_clearColumn 47 [some (.ref 19), some (.int (nI us)), some (.int (nI col)), some (.ref (ro us)), some (.int (nI row)), some (.ref (ro row)), some (.long (lN mu)), none, some (.int (nI (col + i)))] [] h1 Q := by
  intro n
  induction n with
  | zero => intro i h1 hn; omega
  | succ n ih =>
    intro i h1 hn hi hQ hF
    have hQ0 := hQ
    obtain ⟨q1, ⟨g, q2, q3⟩, q4, q5, q6, q7⟩ := hQ0
    have hrb := q4.1 row hrow
    have hx := q5 row hrow
    rw [updM_s] at hx
    have hu := q5 us hus
    rw [updM_n _ _ hne] at hu
    refine ar_go M_Q_clearColumn 3 _ 51 _ [some (.ref 19), some (.int (nI us)), some (.int (nI col)), some (.ref (ro us)), some (.int (nI row)), some (.ref (ro row)), some (.long (lN mu)), none, some (.int (nI (col + i)))] _ [.int (lg_cmp (lN mu) (lN 0))] rfl ?_
    refine ar_top (w := .int 1) (congrArg Value.int ((lcmp0 hmu).trans (if_neg hmu0))) ?_
    refine ar_if M_Q_clearColumn rfl rfl (fun z => absurd z (by decide)) (fun _ => ?_)
    refine ar_go M_Q_clearColumn 2 _ 57 _ [some (.ref 19), some (.int (nI us)), some (.int (nI col)), some (.ref (ro us)), some (.int (nI row)), some (.ref (ro row)), some (.long (lN mu)), none, some (.int (nI (col + i)))] _ [.ref 19, .int (nI (col + i))] rfl ?_
    refine ar_get M_Q_clearColumn rfl rfl q1 rfl ?_
    refine ar_icmp M_Q_clearColumn rfl rfl (fun hc => ?_) (fun hc => ?_)
    · have hc := c2_gt_t (a := (col + i)) (b := c) (by omega) (by omega) hc
      have hi2 : i = c + 1 - col := by omega
      rw [hi2] at hQ ⊢
      exact K h1 hQ hF
    · have hc := c2_gt_f (a := (col + i)) (b := c) (by omega) (by omega) hc
      have hxx := cl1_17 (hM row hrow) (M us) mu col i (col + i) (by omega)
      have huu := hM us hus (col + i) (by omega)
      refine ar_go M_Q_clearColumn 4 _ 71 _ [some (.ref 19), some (.int (nI us)), some (.int (nI col)), some (.ref (ro us)), some (.int (nI row)), some (.ref (ro row)), some (.long (lN mu)), none, some (.int (nI (col + i)))] _ [.int (nI (col + i)), .ref (ro row), .int (nI (col + i)), .ref (ro row)] rfl ?_
      refine ar_lald M_Q_clearColumn rfl hx (vp_in_nI (by omega) (by decide)) ?_
      rw [nI_clamp (n := (col + i)) (by omega)]
      refine ar_go M_Q_clearColumn 3 _ 77 _ [some (.ref 19), some (.int (nI us)), some (.int (nI col)), some (.ref (ro us)), some (.int (nI row)), some (.ref (ro row)), some (.long (lN mu)), none, some (.int (nI (col + i)))] _ [.int (nI (col + i)), .ref (ro us), .long (lN mu), .long (lN ((cl1 (M row) (M us) mu col i) (col + i))), .int (nI (col + i)), .ref (ro row)] rfl ?_
      refine ar_lald M_Q_clearColumn rfl hu (vp_in_nI (by omega) (by decide)) ?_
      rw [nI_clamp (n := (col + i)) (by omega)]
      refine ar_CS M_Q_clearColumn rfl rfl (Nat.le_of_ble_eq_true rfl) rfl rfl (Nat.le_of_ble_eq_true rfl) M_F_times (Nat.le_of_ble_eq_true rfl) (c_F_times X d _ (by omega) (by omega)) (fun r1 h1 hq => ?_)
      obtain ⟨rfl, rfl⟩ := hq
      refine ⟨rfl, ?_⟩
      have hmm : mu * M us (col + i) % 2147483647 < 2147483647 := Nat.mod_lt _ (by decide)
      show ar Pg _ _ _ 81 [some (.ref 19), some (.int (nI us)), some (.int (nI col)), some (.ref (ro us)), some (.int (nI row)), some (.ref (ro row)), some (.long (lN mu)), none, some (.int (nI (col + i)))] [.long (lN (mu * M us (col + i) % 2147483647)), .long (lN ((cl1 (M row) (M us) mu col i) (col + i))), .int (nI (col + i)), .ref (ro row)] _ _
      refine ar_CS M_Q_clearColumn rfl rfl (Nat.le_of_ble_eq_true rfl) rfl rfl (Nat.le_of_ble_eq_true rfl) M_F_minus (Nat.le_of_ble_eq_true rfl) (c_F_minus X d _ (by omega) (by omega) (by omega)) (fun r1 h1 hq => ?_)
      obtain ⟨rfl, rfl⟩ := hq
      refine ⟨rfl, ?_⟩
      show ar Pg _ _ _ 84 [some (.ref 19), some (.int (nI us)), some (.int (nI col)), some (.ref (ro us)), some (.int (nI row)), some (.ref (ro row)), some (.long (lN mu)), none, some (.int (nI (col + i)))] [.long (lN ((cl1 (M row) (M us) mu col i (col + i) + 2147483647 - mu * M us (col + i) % 2147483647) % 2147483647)), .int (nI (col + i)), .ref (ro row)] _ _
      refine ar_last M_Q_clearColumn rfl hx (vp_in_nI (by omega) (by decide)) (fun h2 hf he => ?_)
      rw [nI_clamp (n := (col + i)) (by omega)] at he
      rw [updL_lN] at he
      have hx : h2[(ro row)]? = some (.inl (1, 17, .inr (.inl (fun z9 => lN ((updN (cl1 (M row) (M us) mu col i) (col + i) ((cl1 (M row) (M us) mu col i (col + i) + 2147483647 - mu * M us (col + i) % 2147483647) % 2147483647)) z9))))) := he
      refine ar_go M_Q_clearColumn 1 _ 88 _ [some (.ref 19), some (.int (nI us)), some (.int (nI col)), some (.ref (ro us)), some (.int (nI row)), some (.ref (ro row)), some (.long (lN mu)), none, some (.int (nI (col + i) + Int32.ofInt 1))] _ [] rfl ?_
      rw [show nI (col + i) + Int32.ofInt 1 = nI ((col + i) + 1) from nI_add (col + i) 1]
      refine ar_go M_Q_clearColumn 1 _ 47 _ [some (.ref 19), some (.int (nI us)), some (.int (nI col)), some (.ref (ro us)), some (.int (nI row)), some (.ref (ro row)), some (.long (lN mu)), none, some (.int (nI ((col + i) + 1)))] _ [] rfl ?_
      have hQ2 := hQ.set hrow hf hx (cl1_17 (hM row hrow) (M us) mu col (i + 1))
      rw [updM_updM] at hQ2
      exact ih (i + 1) h2 (by omega) (by omega) hQ2 (hF.tr hf (by simp) (eq_sub q4 hrow))
theorem c_Q_c2_loop (X : am_X) (d : Nat) (h : am_H) {ro : Nat → Nat} {c us col : Nat} {M : Nat → Nat → Nat} {uk : Nat → Option Nat} (hc : c < 17) (hus : us < 16) (hcol : col ≤ c) : ∀ (n r : Nat) (h1 : am_H) (x5 x6 x8 : Option Value), c - r < n → r ≤ c → isQ h1 ro c (clr M us col c r) uk → fr eqL h h1 → ar Pg X (d + 1) n_Q_clearColumn 10 [some (.ref 19), some (.int (nI us)), some (.int (nI col)), some (.ref (ro us)), some (.int (nI r)), x5, x6, none, x8] [] h1 (fun rr h' => rr = none ∧ fr eqL h h' ∧ isQ h' ro c (clr M us col c c) uk) := by
  intro n
  induction n with
  | zero => intro r h1 x5 x6 x8 hn; omega
  | succ n ih =>
    intro r h1 x5 x6 x8 hn hr hQ hF
    have hQ0 := hQ
    obtain ⟨q1, ⟨g, q2, q3⟩, q4, q5, q6, q7⟩ := hQ0
    refine ar_go M_Q_clearColumn 2 _ 13 _ [some (.ref 19), some (.int (nI us)), some (.int (nI col)), some (.ref (ro us)), some (.int (nI r)), x5, x6, none, x8] _ [.ref 19, .int (nI r)] rfl ?_
    refine ar_get M_Q_clearColumn rfl rfl q1 rfl ?_
    refine ar_icmp M_Q_clearColumn rfl rfl (fun hc1 => ?_) (fun hc1 => ?_)
    · have hc1 := c2_ge_t (a := r) (b := c) (by omega) (by omega) hc1
      have hi2 : r = c := by omega
      rw [hi2] at hQ
      exact ar_R M_Q_clearColumn rfl rfl rfl rfl (⟨rfl, hF, hQ⟩)
    · have hc1 := c2_ge_f (a := r) (b := c) (by omega) (by omega) hc1
      refine ar_go M_Q_clearColumn 1 _ 20 _ [some (.ref 19), some (.int (nI us)), some (.int (nI col)), some (.ref (ro us)), some (.int (nI r)), x5, x6, none, x8] _ [.ref 19] rfl ?_
      refine ar_get M_Q_clearColumn rfl rfl q1 rfl ?_
      refine ar_go M_Q_clearColumn 1 _ 25 _ [some (.ref 19), some (.int (nI us)), some (.int (nI col)), some (.ref (ro us)), some (.int (nI r)), x5, x6, none, x8] _ [.int (nI r), .ref 20] rfl ?_
      refine ar_aald M_Q_clearColumn rfl q2 (Or.inl rfl) (vp_in_nI (by omega) (by decide)) (by rw [nI_clamp (n := r) (by omega)]; exact q3 r (by omega)) ?_
      have hx1 := q5 r (by omega)
      refine ar_go M_Q_clearColumn 3 _ 31 _ [some (.ref 19), some (.int (nI us)), some (.int (nI col)), some (.ref (ro us)), some (.int (nI r)), some (.ref (ro r)), x6, none, x8] _ [.int (nI us), .int (nI r)] rfl ?_
      refine ar_icmp M_Q_clearColumn rfl rfl (fun hc2 => ?_) (fun hc2 => ?_)
      · have hc2 := c2_ne_t (a := r) (b := us) (by omega) (by omega) hc2
        have hcl : clr M us col c (r + 1) = if clr M us col c r r col = 0 then clr M us col c r else updM (clr M us col c r) r (cl1 (clr M us col c r r) (clr M us col c r us) (clr M us col c r r col) col (c + 1 - col)) := by rw [clr, if_neg hc2]
        have hcj := q6 r (by omega) col (by omega)
        refine ar_go M_Q_clearColumn 2 _ 41 _ [some (.ref 19), some (.int (nI us)), some (.int (nI col)), some (.ref (ro us)), some (.int (nI r)), some (.ref (ro r)), x6, none, x8] _ [.int (nI col), .ref (ro r)] rfl ?_
        refine ar_lald M_Q_clearColumn rfl hx1 (vp_in_nI (by omega) (by decide)) ?_
        rw [nI_clamp (n := col) (by omega)]
        refine ar_go M_Q_clearColumn 3 _ 47 _ [some (.ref 19), some (.int (nI us)), some (.int (nI col)), some (.ref (ro us)), some (.int (nI r)), some (.ref (ro r)), some (.long (lN (((clr M us col c r) r) col))), none, some (.int (nI col))] _ [] rfl ?_
        by_cases h0 : clr M us col c r r col = 0
        · refine ar_go M_Q_clearColumn 3 _ 51 _ [some (.ref 19), some (.int (nI us)), some (.int (nI col)), some (.ref (ro us)), some (.int (nI r)), some (.ref (ro r)), some (.long (lN (((clr M us col c r) r) col))), none, some (.int (nI col))] _ [.int (lg_cmp (lN (((clr M us col c r) r) col)) (lN 0))] rfl ?_
          refine ar_top (w := .int 0) (congrArg Value.int ((lcmp0 hcj).trans (if_pos h0))) ?_
          refine ar_if M_Q_clearColumn rfl rfl (fun _ => ?_) (fun z => absurd z (by decide))
          refine ar_go M_Q_clearColumn 1 _ 94 _ [some (.ref 19), some (.int (nI us)), some (.int (nI col)), some (.ref (ro us)), some (.int (nI r + Int32.ofInt 1)), some (.ref (ro r)), some (.long (lN (((clr M us col c r) r) col))), none, some (.int (nI col))] _ [] rfl ?_
          rw [show nI r + Int32.ofInt 1 = nI (r + 1) from nI_add r 1]
          refine ar_go M_Q_clearColumn 1 _ 10 _ [some (.ref 19), some (.int (nI us)), some (.int (nI col)), some (.ref (ro us)), some (.int (nI (r + 1))), some (.ref (ro r)), some (.long (lN (((clr M us col c r) r) col))), none, some (.int (nI col))] _ [] rfl ?_
          rw [if_pos h0] at hcl
          exact ih (r + 1) h1 _ _ _ (by omega) (by omega) (by rw [hcl]; exact hQ) hF
        · rw [if_neg h0] at hcl
          refine c_Q_c1_loop X d h (us := us) (M := clr M us col c r) hc hus (by omega) (fun z => hc2 z.symm) hcol hcj h0 q6 ?_ (c + 2) 0 h1 (by omega) (by omega) (by rw [show cl1 (clr M us col c r r) (clr M us col c r us) (clr M us col c r r col) col 0 = clr M us col c r r from rfl, updM_self]; exact hQ) hF
          intro h2 hQ2 hF2
          refine ar_go M_Q_clearColumn 1 _ 94 _ [some (.ref 19), some (.int (nI us)), some (.int (nI col)), some (.ref (ro us)), some (.int (nI r + Int32.ofInt 1)), some (.ref (ro r)), some (.long (lN (((clr M us col c r) r) col))), none, some (.int (nI (col + (c + 1 - col))))] _ [] rfl ?_
          rw [show nI r + Int32.ofInt 1 = nI (r + 1) from nI_add r 1]
          refine ar_go M_Q_clearColumn 1 _ 10 _ [some (.ref 19), some (.int (nI us)), some (.int (nI col)), some (.ref (ro us)), some (.int (nI (r + 1))), some (.ref (ro r)), some (.long (lN (((clr M us col c r) r) col))), none, some (.int (nI (col + (c + 1 - col))))] _ [] rfl ?_
          exact ih (r + 1) h2 _ _ _ (by omega) (by omega) (by rw [hcl]; exact hQ2) hF2
      · have hc2 := c2_ne_f (a := r) (b := us) (by omega) (by omega) hc2
        have hcl : clr M us col c (r + 1) = clr M us col c r := by rw [clr, if_pos hc2]
        refine ar_go M_Q_clearColumn 7 _ 50 _ [some (.ref 19), some (.int (nI us)), some (.int (nI col)), some (.ref (ro us)), some (.int (nI r)), some (.ref (ro r)), some (.long (lN 0)), none, some (.int (nI col))] _ [.long (lN 0), .long (lN 0)] rfl ?_
        refine ar_go M_Q_clearColumn 1 _ 51 _ [some (.ref 19), some (.int (nI us)), some (.int (nI col)), some (.ref (ro us)), some (.int (nI r)), some (.ref (ro r)), some (.long (lN 0)), none, some (.int (nI col))] _ [.int (lg_cmp (lN 0) (lN 0))] rfl ?_
        refine ar_if M_Q_clearColumn rfl rfl (fun _ => ?_) (fun z => absurd z (by decide))
        refine ar_go M_Q_clearColumn 1 _ 94 _ [some (.ref 19), some (.int (nI us)), some (.int (nI col)), some (.ref (ro us)), some (.int (nI r + Int32.ofInt 1)), some (.ref (ro r)), some (.long (lN 0)), none, some (.int (nI col))] _ [] rfl ?_
        rw [show nI r + Int32.ofInt 1 = nI (r + 1) from nI_add r 1]
        refine ar_go M_Q_clearColumn 1 _ 10 _ [some (.ref 19), some (.int (nI us)), some (.int (nI col)), some (.ref (ro us)), some (.int (nI (r + 1))), some (.ref (ro r)), some (.long (lN 0)), none, some (.int (nI col))] _ [] rfl ?_
        exact ih (r + 1) h1 _ _ _ (by omega) (by omega) (by rw [hcl]; exact hQ) hF
theorem c_Q_clearColumn (X : am_X) (d : Nat) (h : am_H) {ro : Nat → Nat} {c us col : Nat} {M : Nat → Nat → Nat} {uk : Nat → Option Nat} (hQ : isQ h ro c M uk) (hc : c < 17) (hus : us < 16) (hcol : col ≤ c) : ar Pg X (d + 1) n_Q_clearColumn 0 [some (.ref 19), some (.int (nI us)), some (.int (nI col)), none, none, none, none, none, none] [] h (fun rr h' => rr = none ∧ fr eqL h h' ∧ isQ h' ro c (clr M us col c c) uk) := by
  have hQ0 := hQ
  obtain ⟨q1, ⟨g, q2, q3⟩, q4, q5, q6, q7⟩ := hQ
  refine ar_go M_Q_clearColumn 1 _ 1 _ [some (.ref 19), some (.int (nI us)), some (.int (nI col)), none, none, none, none, none, none] _ [.ref 19] rfl ?_
  refine ar_get M_Q_clearColumn rfl rfl q1 rfl ?_
  refine ar_go M_Q_clearColumn 1 _ 5 _ [some (.ref 19), some (.int (nI us)), some (.int (nI col)), none, none, none, none, none, none] _ [.int (nI us), .ref 20] rfl ?_
  refine ar_aald M_Q_clearColumn rfl q2 (Or.inl rfl) (vp_in_nI (by omega) (by decide)) (by rw [nI_clamp (n := us) (by omega)]; exact q3 us (by omega)) ?_
  have hx1 := q5 us (by omega)
  refine ar_go M_Q_clearColumn 3 _ 10 _ [some (.ref 19), some (.int (nI us)), some (.int (nI col)), some (.ref (ro us)), some (.int (nI 0)), none, none, none, none] _ [] rfl ?_
  exact c_Q_c2_loop X d h (M := M) hc hus hcol (c + 1) 0 h _ _ _ (by omega) (by omega) hQ0 (fr.rf _ _)
