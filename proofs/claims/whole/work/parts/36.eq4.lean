/-! Equations: fill, solve -/
def updU (uk : Nat → Option Nat) (j : Nat) (v : Option Nat) : Nat → Option Nat := fun i => if i = j then v else uk i
theorem upd_ruI (uk : Nat → Option Nat) (j : Nat) (v : Option Nat) : upd (fun i => ruI (uk i)) j (ruI v) = fun i => ruI (updU uk j v i) := by
  funext i
  unfold upd updU
  split <;> rfl
def flU (uk : Nat → Option Nat) : Nat → Nat → Option Nat
  | 0 => uk
  | i + 1 => updU (flU uk i) i none
theorem flU_lt (uk : Nat → Option Nat) : ∀ n i, i < n → flU uk n i = none
  | 0, i, h => absurd h (Nat.not_lt_zero _)
  | n + 1, i, h => by
    rw [flU]
    unfold updU
    split
    · rfl
    · exact flU_lt uk n i (by omega)
/-- one column of Gauss and Jordan: matrix, rows of unknowns, how many rows are used -/
def gjs (c col : Nat) (S : (Nat → Nat → Nat) × (Nat → Option Nat) × Nat) : (Nat → Nat → Nat) × (Nat → Option Nat) × Nat :=
  if fz S.1 col (c - S.2.2) S.2.2 < c then
    (clr (updM (swM S.1 (fz S.1 col (c - S.2.2) S.2.2) S.2.2) S.2.2 (sc1 (swM S.1 (fz S.1 col (c - S.2.2) S.2.2) S.2.2 S.2.2) (mf_iv (swM S.1 (fz S.1 col (c - S.2.2) S.2.2) S.2.2 S.2.2 col)) col (c + 1 - col))) S.2.2 col c c, updU S.2.1 col (some S.2.2), S.2.2 + 1)
  else S
def gj (c : Nat) (M : Nat → Nat → Nat) (uk : Nat → Option Nat) : Nat → (Nat → Nat → Nat) × (Nat → Option Nat) × Nat
  | 0 => (M, flU uk 16, 0)
  | col + 1 => gjs c col (gj c M uk col)
theorem gj_used (c : Nat) (M : Nat → Nat → Nat) (uk : Nat → Option Nat) : ∀ col, (gj c M uk col).2.2 ≤ col
  | 0 => Nat.le_refl _
  | col + 1 => by
    have := gj_used c M uk col
    rw [gj, gjs]
    split
    · show (gj c M uk col).2.2 + 1 ≤ col + 1; omega
    · omega
theorem gj_uk {c : Nat} (hc : c ≤ 16) (M : Nat → Nat → Nat) (uk : Nat → Option Nat) : ∀ col, col ≤ c → ∀ i r, i < 16 → (gj c M uk col).2.1 i = some r → r < 16
  | 0, _, i, r, hi, h => by
    have h : flU uk 16 i = some r := h
    rw [flU_lt uk 16 i hi] at h
    cases h
  | col + 1, hcol, i, r, hi, h => by
    have ih := gj_uk hc M uk col (by omega) i r hi
    have hu := gj_used c M uk col
    rw [gj, gjs] at h
    split at h
    · have h : updU (gj c M uk col).2.1 col (some (gj c M uk col).2.2) i = some r := h
      unfold updU at h
      split at h
      · cases h; omega
      · exact ih h
    · exact ih h
theorem fz_le (M : Nat → Nat → Nat) (col : Nat) : ∀ n row, fz M col n row ≤ row + n
  | 0, row => Nat.le_refl _
  | n + 1, row => by
    have := fz_le M col n (row + 1)
    rw [fz]
    split <;> omega
theorem c_J_fl_loop (X : am_X) (d : Nat) (h : am_H) {uk : Nat → Option Nat} : ∀ (n i0 : Nat) (h1 : am_H), 16 - i0 < n → i0 ≤ 16 → h1[37]? = some (.inl (0, 16, .inl (fun i => ruI (flU uk i0 i)))) → fr [37] h h1 → ar Pg X d n_J_fill 5 [some (.ref 37), some (.int (-1)), some (.int (nI i0)), some (.int (nI 16))] [] h1 (fun rr h' => rr = none ∧ fr [37] h h' ∧ h'[37]? = some (.inl (0, 16, .inl (fun i => ruI (flU uk 16 i))))) := by
  intro n
  induction n with
  | zero => intro i0 h1 hn; omega
  | succ n ih =>
    intro i0 h1 hn hi q7 hF
    refine ar_go M_J_fill 2 _ 7 _ [some (.ref 37), some (.int (-1)), some (.int (nI i0)), some (.int (nI 16))] _ [.int (nI 16), .int (nI i0)] rfl ?_
    refine ar_icmp M_J_fill rfl rfl (fun hc => ?_) (fun hc => ?_)
    · have hc := c2_ge_t (a := i0) (b := 16) (by omega) (by omega) hc
      have hi2 : i0 = 16 := by omega
      rw [hi2] at q7
      exact ar_R M_J_fill rfl rfl rfl rfl (⟨rfl, hF, q7⟩)
    · have hc := c2_ge_f (a := i0) (b := 16) (by omega) (by omega) hc
      refine ar_go M_J_fill 3 _ 13 _ [some (.ref 37), some (.int (-1)), some (.int (nI i0)), some (.int (nI 16))] _ [.int (-1), .int (nI i0), .ref 37] rfl ?_
      refine ar_iast M_J_fill rfl q7 (vp_in_nI (by omega) (by decide)) (fun h2 hf he => ?_)
      rw [nI_clamp (n := i0) (by omega)] at he
      have q7 : h2[37]? = some (.inl (0, 16, .inl (fun i => ruI (flU uk (i0 + 1) i)))) := by rw [he]; exact congrArg (fun z => some (Sum.inl (0, 16, Sum.inl z))) (upd_ruI (flU uk i0) i0 none)
      refine ar_go M_J_fill 1 _ 17 _ [some (.ref 37), some (.int (-1)), some (.int (nI i0 + Int32.ofInt 1)), some (.int (nI 16))] _ [] rfl ?_
      rw [show nI i0 + Int32.ofInt 1 = nI (i0 + 1) from nI_add i0 1]
      refine ar_go M_J_fill 1 _ 5 _ [some (.ref 37), some (.int (-1)), some (.int (nI (i0 + 1))), some (.int (nI 16))] _ [] rfl ?_
      exact ih (i0 + 1) h2 (by omega) (by omega) q7 (hF.tr hf (by simp) (by simp))
theorem c_J_fill (X : am_X) (d : Nat) (h : am_H) {uk : Nat → Option Nat} (q7 : h[37]? = some (.inl (0, 16, .inl (fun i => ruI (uk i))))) : ar Pg X d n_J_fill 0 [some (.ref 37), some (.int (-1)), none, none] [] h (fun rr h' => rr = none ∧ fr [37] h h' ∧ h'[37]? = some (.inl (0, 16, .inl (fun i => ruI (flU uk 16 i))))) := by
  refine ar_go M_J_fill 3 _ 3 _ [some (.ref 37), some (.int (-1)), some (.int (nI 0)), none] _ [.ref 37] rfl ?_
  refine ar_alen M_J_fill rfl (by unfold am_x0; omega) q7 (by decide) ?_
  refine ar_go M_J_fill 1 _ 5 _ [some (.ref 37), some (.int (-1)), some (.int (nI 0)), some (.int (nI 16))] _ [] rfl ?_
  exact c_J_fl_loop X d h 17 0 h (by omega) (by omega) q7 (fr.rf _ _)
theorem c_Q_so_loop (X : am_X) (d : Nat) (h : am_H) {c : Nat} {M : Nat → Nat → Nat} {uk : Nat → Option Nat} (hc : c ≤ 16) : ∀ (n col us : Nat) (Mc : Nat → Nat → Nat) (ukc : Nat → Option Nat) (ro : Nat → Nat) (h1 : am_H) (x4 : Option Value), c - col < n → col ≤ c → us ≤ col → gj c M uk col = (Mc, ukc, us) → isQ h1 ro c Mc ukc → fr eqL h h1 → ar Pg X (d + 1 + 1) n_Q_solve 17 [some (.ref 19), some (.int (nI c)), some (.int (nI us)), some (.int (nI col)), x4] [] h1 (fun rr h' => ∃ ro', rr = some (.int (bi (rs0 (gj c M uk c).1 c (c - (gj c M uk c).2.2) (gj c M uk c).2.2))) ∧ fr eqL h h' ∧ isQ h' ro' c (gj c M uk c).1 (gj c M uk c).2.1) := by
  intro n
  induction n with
  | zero => intro col us Mc ukc ro h1 x4 hn; omega
  | succ n ih =>
    intro col us Mc ukc ro h1 x4 hn hcol hus hg hQ hF
    have hQ0 := hQ
    obtain ⟨q1, ⟨g, q2, q3⟩, q4, q5, q6, q7⟩ := hQ0
    refine ar_go M_Q_solve 2 _ 19 _ [some (.ref 19), some (.int (nI c)), some (.int (nI us)), some (.int (nI col)), x4] _ [.ref 19, .int (nI col)] rfl ?_
    refine ar_get M_Q_solve rfl rfl q1 rfl ?_
    refine ar_icmp M_Q_solve rfl rfl (fun hc1 => ?_) (fun hc1 => ?_)
    · have hc1 := c2_ge_t (a := col) (b := c) (by omega) (by omega) hc1
      have hi2 : col = c := by omega
      subst hi2
      refine ar_go M_Q_solve 2 _ 90 _ [some (.ref 19), some (.int (nI col)), some (.int (nI us)), some (.int (nI col)), x4] _ [.int (nI us), .ref 19] rfl ?_
      refine ar_CV M_Q_solve rfl rfl (Or.inl rfl) rfl rfl (Nat.le_of_ble_eq_true rfl) q1 M_Q_rightSidesAre0 (Nat.le_of_ble_eq_true rfl) (c_Q_rightSidesAre0 X (d + 1) _ hQ (by omega) (by omega)) (fun r1 h1 hq => ?_)
      obtain ⟨rfl, rfl⟩ := hq
      refine ⟨rfl, ?_⟩
      show ar Pg _ _ _ 93 [some (.ref 19), some (.int (nI col)), some (.int (nI us)), some (.int (nI col)), x4] [.int (bi (rs0 Mc col (col - us) us))] _ _
      exact ar_zret M_Q_solve rfl rfl (bi_01 _) (⟨ro, by rw [hg], hF, by rw [hg]; exact hQ⟩)
    · have hc1 := c2_ge_f (a := col) (b := c) (by omega) (by omega) hc1
      refine ar_go M_Q_solve 3 _ 28 _ [some (.ref 19), some (.int (nI c)), some (.int (nI us)), some (.int (nI col)), x4] _ [.int (nI col), .int (nI us), .ref 19] rfl ?_
      refine ar_CV M_Q_solve rfl rfl (Or.inl rfl) rfl rfl (Nat.le_of_ble_eq_true rfl) q1 M_Q_rowWithout0 (Nat.le_of_ble_eq_true rfl) (c_Q_rowWithout0 X (d + 1) _ hQ (by omega) (by omega) (by omega)) (fun r1 h1 hq => ?_)
      obtain ⟨rfl, rfl⟩ := hq
      refine ⟨rfl, ?_⟩
      show ar Pg _ _ _ 31 [some (.ref 19), some (.int (nI c)), some (.int (nI us)), some (.int (nI col)), x4] [.int (nI (fz Mc col (c - us) us))] _ _
      have hfz := fz_le Mc col (c - us) us
      obtain ⟨p, hp⟩ : ∃ p, p = fz Mc col (c - us) us := ⟨_, rfl⟩
      rw [← hp] at hfz ⊢
      refine ar_go M_Q_solve 3 _ 36 _ [some (.ref 19), some (.int (nI c)), some (.int (nI us)), some (.int (nI col)), some (.int (nI p))] _ [.ref 19, .int (nI p)] rfl ?_
      refine ar_get M_Q_solve rfl rfl q1 rfl ?_
      refine ar_icmp M_Q_solve rfl rfl (fun hc2 => ?_) (fun hc2 => ?_)
      · have hc2 := c2_ge_t (a := p) (b := c) (by omega) (by omega) hc2
        refine ar_go M_Q_solve 1 _ 85 _ [some (.ref 19), some (.int (nI c)), some (.int (nI us)), some (.int (nI col + Int32.ofInt 1)), some (.int (nI p))] _ [] rfl ?_
        rw [show nI col + Int32.ofInt 1 = nI (col + 1) from nI_add col 1]
        refine ar_go M_Q_solve 1 _ 17 _ [some (.ref 19), some (.int (nI c)), some (.int (nI us)), some (.int (nI (col + 1))), some (.int (nI p))] _ [] rfl ?_
        refine ih (col + 1) us Mc ukc ro h1 _ (by omega) (by omega) (by omega) ?_ hQ hF
        rw [gj, hg, gjs, if_neg (by rw [← hp]; omega)]
      · have hc2 := c2_ge_f (a := p) (b := c) (by omega) (by omega) hc2
        refine ar_go M_Q_solve 3 _ 46 _ [some (.ref 19), some (.int (nI c)), some (.int (nI us)), some (.int (nI col)), some (.int (nI p))] _ [.int (nI us), .int (nI p), .ref 19] rfl ?_
        refine ar_CV M_Q_solve rfl rfl (Or.inl rfl) rfl rfl (Nat.le_of_ble_eq_true rfl) q1 M_Q_swapRows (Nat.le_of_ble_eq_true rfl) (c_Q_swapRows X (d + 1) _ hQ (by omega) (by omega)) (fun r1 h2 hq => ?_)
        obtain ⟨rfl, hf2, hQ2⟩ := hq
        refine ⟨hf2.1, ?_⟩
        have hQ20 := hQ2
        clear q1 q2 q3 q4 q5 q6 q7
        obtain ⟨q1, ⟨g2, q2, q3⟩, q4, q5, q6, q7⟩ := hQ20
        show ar Pg _ _ _ 49 [some (.ref 19), some (.int (nI c)), some (.int (nI us)), some (.int (nI col)), some (.int (nI p))] [] _ _
        refine ar_go M_Q_solve 4 _ 53 _ [some (.ref 19), some (.int (nI c)), some (.int (nI us)), some (.int (nI col)), some (.int (nI p))] _ [.ref 19, .int (nI col), .int (nI us), .ref 19] rfl ?_
        refine ar_get M_Q_solve rfl rfl q1 rfl ?_
        refine ar_go M_Q_solve 1 _ 57 _ [some (.ref 19), some (.int (nI c)), some (.int (nI us)), some (.int (nI col)), some (.int (nI p))] _ [.int (nI us), .ref 20, .int (nI col), .int (nI us), .ref 19] rfl ?_
        refine ar_aald M_Q_solve rfl q2 (Or.inl rfl) (vp_in_nI (by omega) (by decide)) (by rw [nI_clamp (n := us) (by omega)]; exact q3 us (by omega)) ?_
        have hx1 := q5 us (by omega)
        refine ar_go M_Q_solve 1 _ 59 _ [some (.ref 19), some (.int (nI c)), some (.int (nI us)), some (.int (nI col)), some (.int (nI p))] _ [.int (nI col), .ref (swN ro p us us), .int (nI col), .int (nI us), .ref 19] rfl ?_
        refine ar_lald M_Q_solve rfl hx1 (vp_in_nI (by omega) (by decide)) ?_
        rw [nI_clamp (n := col) (by omega)]
        have hpv := q6 us (by omega) col (by omega)
        refine ar_CS M_Q_solve rfl rfl (Nat.le_of_ble_eq_true rfl) rfl rfl (Nat.le_of_ble_eq_true rfl) M_F_inverse (Nat.le_of_ble_eq_true rfl) (c_F_inverse X (d + 1) _ (by omega)) (fun r1 h1 hq => ?_)
        obtain ⟨rfl, rfl⟩ := hq
        refine ⟨rfl, ?_⟩
        show ar Pg _ _ _ 63 [some (.ref 19), some (.int (nI c)), some (.int (nI us)), some (.int (nI col)), some (.int (nI p))] [.long (lN (mf_iv (swM Mc p us us col))), .int (nI col), .int (nI us), .ref 19] _ _
        refine ar_CV M_Q_solve rfl rfl (Or.inl rfl) rfl rfl (Nat.le_of_ble_eq_true rfl) q1 M_Q_scaleRow (Nat.le_of_ble_eq_true rfl) (c_Q_scaleRow X d _ hQ2 (by omega) (by omega) (by omega) (Nat.lt_trans (mf_iv_lt _) (by decide))) (fun r1 h3 hq => ?_)
        obtain ⟨rfl, hf3, hQ3⟩ := hq
        refine ⟨hf3.1, ?_⟩
        have q1 := hQ3.1
        show ar Pg _ _ _ 66 [some (.ref 19), some (.int (nI c)), some (.int (nI us)), some (.int (nI col)), some (.int (nI p))] [] _ _
        refine ar_go M_Q_solve 3 _ 69 _ [some (.ref 19), some (.int (nI c)), some (.int (nI us)), some (.int (nI col)), some (.int (nI p))] _ [.int (nI col), .int (nI us), .ref 19] rfl ?_
        refine ar_CV M_Q_solve rfl rfl (Or.inl rfl) rfl rfl (Nat.le_of_ble_eq_true rfl) q1 M_Q_clearColumn (Nat.le_of_ble_eq_true rfl) (c_Q_clearColumn X d _ hQ3 (by omega) (by omega) (by omega)) (fun r1 h4 hq => ?_)
        obtain ⟨rfl, hf4, hQ4⟩ := hq
        refine ⟨hf4.1, ?_⟩
        clear q1 q2 q3 q4 q5 q6 q7
        have hQ40 := hQ4
        obtain ⟨q1, ⟨g4, q2, q3⟩, q4, q5, q6, q7⟩ := hQ40
        show ar Pg _ _ _ 72 [some (.ref 19), some (.int (nI c)), some (.int (nI us)), some (.int (nI col)), some (.int (nI p))] [] _ _
        refine ar_go M_Q_solve 1 _ 73 _ [some (.ref 19), some (.int (nI c)), some (.int (nI us)), some (.int (nI col)), some (.int (nI p))] _ [.ref 19] rfl ?_
        refine ar_get M_Q_solve rfl rfl q1 rfl ?_
        refine ar_go M_Q_solve 2 _ 78 _ [some (.ref 19), some (.int (nI c)), some (.int (nI us)), some (.int (nI col)), some (.int (nI p))] _ [.int (nI us), .int (nI col), .ref 37] rfl ?_
        refine ar_iast M_Q_solve rfl q7 (vp_in_nI (by omega) (by decide)) (fun h5 hf5 he => ?_)
        rw [nI_clamp (n := col) (by omega)] at he
        have q71 : h5[37]? = some (.inl (0, 16, .inl (fun i => ruI (updU ukc col (some us) i)))) := by rw [he]; exact congrArg (fun z => some (Sum.inl (0, 16, Sum.inl z))) (upd_ruI ukc col (some us))
        refine ar_go M_Q_solve 1 _ 82 _ [some (.ref 19), some (.int (nI c)), some (.int (nI us + Int32.ofInt 1)), some (.int (nI col)), some (.int (nI p))] _ [] rfl ?_
        rw [show nI us + Int32.ofInt 1 = nI (us + 1) from nI_add us 1]
        refine ar_go M_Q_solve 1 _ 85 _ [some (.ref 19), some (.int (nI c)), some (.int (nI (us + 1))), some (.int (nI col + Int32.ofInt 1)), some (.int (nI p))] _ [] rfl ?_
        rw [show nI col + Int32.ofInt 1 = nI (col + 1) from nI_add col 1]
        refine ar_go M_Q_solve 1 _ 17 _ [some (.ref 19), some (.int (nI c)), some (.int (nI (us + 1))), some (.int (nI (col + 1))), some (.int (nI p))] _ [] rfl ?_
        refine ih (col + 1) (us + 1) _ (updU ukc col (some us)) (swN ro p us) h5 _ (by omega) (by omega) (by omega) ?_ ⟨hf5.at q1 (by simp), ⟨g4, hf5.at q2 (by simp), q3⟩, q4, fun i hi => hf5.at (q5 i hi) (by have := q4.1 i hi; simp; omega), q6, q71⟩ (hF.tr (hf2.tr (hf3.tr (hf4.tr (hf5.mono (l := eqL) (by intro k hk; rw [List.mem_singleton] at hk; rw [mem_eqL, hk]; omega)) (l := eqL) (fun _ z => z) (fun _ z => z)) (l := eqL) (fun _ z => z) (fun _ z => z)) (l := eqL) (fun _ z => z) (fun _ z => z)) (fun _ z => z) (fun _ z => z))
        rw [gj, hg, gjs, if_pos (by rw [← hp]; omega)]
        simp only [← hp]
theorem c_Q_solve (X : am_X) (d : Nat) (h : am_H) {ro : Nat → Nat} {c c0 : Nat} {M : Nat → Nat → Nat} {uk : Nat → Option Nat} (hQ : isQ h ro c0 M uk) (hc : c ≤ 16) : ar Pg X (d + 1 + 1) n_Q_solve 0 [some (.ref 19), some (.int (nI c)), none, none, none] [] h (fun rr h' => ∃ ro', rr = some (.int (bi (rs0 (gj c M uk c).1 c (c - (gj c M uk c).2.2) (gj c M uk c).2.2))) ∧ fr eqL h h' ∧ isQ h' ro' c (gj c M uk c).1 (gj c M uk c).2.1) := by
  obtain ⟨q1, ⟨g, q2, q3⟩, q4, q5, q6, q7⟩ := hQ
  have q20 := q2
  refine ar_go M_Q_solve 2 _ 2 _ [some (.ref 19), some (.int (nI c)), none, none, none] _ [.int (nI c), .ref 19] rfl ?_
  refine ar_put M_Q_solve rfl rfl q1 (Nat.le_of_ble_eq_true rfl) rfl (Nat.le_of_ble_eq_true rfl) (fun h2 hf he => ?_)
  have q7 := hf.at q7 (by simp only [List.mem_cons, List.not_mem_nil, or_false]; omega)
  have q1 : h2[19]? = some (.inr (3, [.ref 20, .ref 37, .int (nI c)])) := he
  have k1 := hf
  refine ar_go M_Q_solve 1 _ 6 _ [some (.ref 19), some (.int (nI c)), none, none, none] _ [.ref 19] rfl ?_
  refine ar_get M_Q_solve rfl rfl q1 rfl ?_
  refine ar_go M_Q_solve 1 _ 10 _ [some (.ref 19), some (.int (nI c)), none, none, none] _ [.int (-1), .ref 37] rfl ?_
  refine ar_CS M_Q_solve rfl rfl (Nat.le_of_ble_eq_true rfl) rfl rfl (Nat.le_of_ble_eq_true rfl) M_J_fill (Nat.le_of_ble_eq_true rfl) (c_J_fill X (d + 1) _ q7) (fun r1 h3 hq => ?_)
  obtain ⟨rfl, hf2, q72⟩ := hq
  refine ⟨hf2.1, ?_⟩
  show ar Pg _ _ _ 13 [some (.ref 19), some (.int (nI c)), none, none, none] [] _ _
  refine ar_go M_Q_solve 4 _ 17 _ [some (.ref 19), some (.int (nI c)), some (.int (nI 0)), some (.int (nI 0)), none] _ [] rfl ?_
  have hF : fr [19, 37] h h3 := k1.tr hf2 (by simp) (by simp)
  refine c_Q_so_loop X d h hc (c + 1) 0 0 M (flU uk 16) ro h3 _ (by omega) (by omega) (by omega) rfl ⟨hf2.at q1 (by simp), ⟨g, hF.at q20 (by simp), q3⟩, q4, fun i hi => hF.at (q5 i hi) (by have := q4.1 i hi; simp; omega), q6, q72⟩ (hF.mono (by intro k hk; rw [mem_eqL]; simp at hk; omega))
