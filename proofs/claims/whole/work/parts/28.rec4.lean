/-! Records: over two of them -/
def cntB (P : Nat → Bool) : Nat → Nat
  | 0 => 0
  | k + 1 => cntB P k + (if P k = true then 1 else 0)
theorem cntB_le (P : Nat → Bool) : ∀ k, cntB P k ≤ k
  | 0 => Nat.le_refl _
  | k + 1 => by
    have := cntB_le P k
    rw [cntB]
    split <;> omega
def shB (l o : Bk) (i : Nat) : Bool := decide (pos o (wd l i / 1024) < o.length) && decide (wd o (pos o (wd l i / 1024)) = wd l i)
theorem c_R_sh_loop (X : am_X) (d : Nat) (h : am_H) {r s : Nat} {l o : Bk} (hR : isR h r l) (hR2 : isR h s o) (hrs : r < 1000) (hss : s < 1000) (hS2 : bkS o) (hW : bkW l) (hW2 : bkW o) : ∀ (k i : Nat) (x4 : Option Value), l.length - i < k → i ≤ l.length → ar Pg X (d + 1) n_R_wordsSharedWith 4 [some (.ref r), some (.ref s), some (.int (nI (cntB (shB l o) i))), some (.int (nI i)), x4] [] h (fun rr h' => rr = some (.int (nI (cntB (shB l o) l.length))) ∧ h' = h) := by
  have hR20 := hR2
  obtain ⟨hlen, hr, f, g, m, hw, hg, hm, hfa⟩ := hR
  obtain ⟨hlen2, hr2, f2, g2, m2, hw2, hg2, hm2, hfa2⟩ := hR2
  intro k
  induction k with
  | zero => intro i x4 hk; omega
  | succ k ih =>
    intro i x4 hk hil
    have hcl := cntB_le (shB l o) i
    refine ar_go M_R_wordsSharedWith 2 _ 6 _ [some (.ref r), some (.ref s), some (.int (nI (cntB (shB l o) i))), some (.int (nI i)), x4] _ [.ref r, .int (nI i)] rfl ?_
    refine ar_get M_R_wordsSharedWith rfl rfl hr rfl ?_
    refine ar_icmp M_R_wordsSharedWith rfl rfl (fun hc => ?_) (fun hc => ?_)
    · have hc := c2_ge_t (a := i) (b := l.length) (by omega) (by omega) hc
      have hi2 : i = l.length := by omega
      refine ar_go M_R_wordsSharedWith 1 _ 63 _ [some (.ref r), some (.ref s), some (.int (nI (cntB (shB l o) i))), some (.int (nI i)), x4] _ [.int (nI (cntB (shB l o) i))] rfl ?_
      exact ar_R M_R_wordsSharedWith rfl rfl rfl rfl (⟨by rw [hi2], rfl⟩)
    · have hc := c2_ge_f (a := i) (b := l.length) (by omega) (by omega) hc
      have hwi := hW i (by omega)
      refine ar_go M_R_wordsSharedWith 2 _ 14 _ [some (.ref r), some (.ref s), some (.int (nI (cntB (shB l o) i))), some (.int (nI i)), x4] _ [.ref r, .ref s] rfl ?_
      refine ar_get M_R_wordsSharedWith rfl rfl hr rfl ?_
      refine ar_go M_R_wordsSharedWith 1 _ 18 _ [some (.ref r), some (.ref s), some (.int (nI (cntB (shB l o) i))), some (.int (nI i)), x4] _ [.int (nI i), .ref (r + 1), .ref s] rfl ?_
      refine ar_iald M_R_wordsSharedWith rfl (by unfold am_x0; omega) hw (vp_in_nI (by omega) (by decide)) ?_
      rw [nI_clamp (n := i) (by omega)]
      refine ar_top (w := .int (nI (wd l i))) (congrArg Value.int ((hfa i (by omega)).1)) ?_
      refine ar_go M_R_wordsSharedWith 1 _ 22 _ [some (.ref r), some (.ref s), some (.int (nI (cntB (shB l o) i))), some (.int (nI i)), x4] _ [.int (nI 1024), .int (nI (wd l i)), .ref s] rfl ?_
      refine ar_idiv M_R_wordsSharedWith rfl (by decide) ?_
      refine ar_top (w := .int (nI ((wd l i) / 1024))) (congrArg Value.int (pk_div (by omega) (by decide) (by decide))) ?_
      refine ar_CV M_R_wordsSharedWith rfl rfl (Or.inl rfl) rfl rfl (Nat.le_of_ble_eq_true rfl) hr2 M_R_placeOf (Nat.le_of_ble_eq_true rfl) (c_R_pos X d _ hR20 hss hS2 hW2 (by omega)) (fun r1 h1 hq => ?_)
      obtain ⟨rfl, rfl⟩ := hq
      refine ⟨rfl, ?_⟩
      show ar Pg _ _ _ 26 [some (.ref r), some (.ref s), some (.int (nI (cntB (shB l o) i))), some (.int (nI i)), x4] [.int (nI (pos o (wd l i / 1024)))] _ _
      have hpl := (pos_pl o (wd l i / 1024) hS2).1
      refine ar_go M_R_wordsSharedWith 3 _ 31 _ [some (.ref r), some (.ref s), some (.int (nI (cntB (shB l o) i))), some (.int (nI i)), some (.int (nI (pos o (wd l i / 1024))))] _ [.ref s, .int (nI (pos o (wd l i / 1024)))] rfl ?_
      refine ar_get M_R_wordsSharedWith rfl rfl hr2 rfl ?_
      refine ar_icmp M_R_wordsSharedWith rfl rfl (fun hc2 => ?_) (fun hc2 => ?_)
      · have hc2 := c2_ge_t (a := (pos o (wd l i / 1024))) (b := o.length) (by omega) (by omega) hc2
        refine ar_go M_R_wordsSharedWith 1 _ 59 _ [some (.ref r), some (.ref s), some (.int (nI (cntB (shB l o) i))), some (.int (nI i + Int32.ofInt 1)), some (.int (nI (pos o (wd l i / 1024))))] _ [] rfl ?_
        rw [show nI i + Int32.ofInt 1 = nI (i + 1) from nI_add i 1]
        refine ar_go M_R_wordsSharedWith 1 _ 4 _ [some (.ref r), some (.ref s), some (.int (nI (cntB (shB l o) i))), some (.int (nI (i + 1))), some (.int (nI (pos o (wd l i / 1024))))] _ [] rfl ?_
        have hnx : cntB (shB l o) (i + 1) = cntB (shB l o) i := by rw [cntB]; simp [shB, show ¬ pos o (wd l i / 1024) < o.length by omega]
        rw [← hnx]
        exact ih (i + 1) _ (by omega) (by omega)
      · have hc2 := c2_ge_f (a := (pos o (wd l i / 1024))) (b := o.length) (by omega) (by omega) hc2
        have hwp := hW2 (pos o (wd l i / 1024)) hc2
        refine ar_go M_R_wordsSharedWith 1 _ 38 _ [some (.ref r), some (.ref s), some (.int (nI (cntB (shB l o) i))), some (.int (nI i)), some (.int (nI (pos o (wd l i / 1024))))] _ [.ref s] rfl ?_
        refine ar_get M_R_wordsSharedWith rfl rfl hr2 rfl ?_
        refine ar_go M_R_wordsSharedWith 1 _ 43 _ [some (.ref r), some (.ref s), some (.int (nI (cntB (shB l o) i))), some (.int (nI i)), some (.int (nI (pos o (wd l i / 1024))))] _ [.int (nI (pos o (wd l i / 1024))), .ref (s + 1)] rfl ?_
        refine ar_iald M_R_wordsSharedWith rfl (by unfold am_x0; omega) hw2 (vp_in_nI (by omega) (by decide)) ?_
        rw [nI_clamp (n := (pos o (wd l i / 1024))) (by omega)]
        refine ar_top (w := .int (nI (wd o (pos o (wd l i / 1024))))) (congrArg Value.int ((hfa2 _ hc2).1)) ?_
        refine ar_go M_R_wordsSharedWith 1 _ 45 _ [some (.ref r), some (.ref s), some (.int (nI (cntB (shB l o) i))), some (.int (nI i)), some (.int (nI (pos o (wd l i / 1024))))] _ [.ref r, .int (nI (wd o (pos o (wd l i / 1024))))] rfl ?_
        refine ar_get M_R_wordsSharedWith rfl rfl hr rfl ?_
        refine ar_go M_R_wordsSharedWith 1 _ 49 _ [some (.ref r), some (.ref s), some (.int (nI (cntB (shB l o) i))), some (.int (nI i)), some (.int (nI (pos o (wd l i / 1024))))] _ [.int (nI i), .ref (r + 1), .int (nI (wd o (pos o (wd l i / 1024))))] rfl ?_
        refine ar_iald M_R_wordsSharedWith rfl (by unfold am_x0; omega) hw (vp_in_nI (by omega) (by decide)) ?_
        rw [nI_clamp (n := i) (by omega)]
        refine ar_top (w := .int (nI (wd l i))) (congrArg Value.int ((hfa i (by omega)).1)) ?_
        refine ar_icmp M_R_wordsSharedWith rfl rfl (fun hc3 => ?_) (fun hc3 => ?_)
        · have hc3 := c2_ne_t (a := (wd o (pos o (wd l i / 1024)))) (b := (wd l i)) (by omega) (by omega) hc3
          refine ar_go M_R_wordsSharedWith 1 _ 59 _ [some (.ref r), some (.ref s), some (.int (nI (cntB (shB l o) i))), some (.int (nI i + Int32.ofInt 1)), some (.int (nI (pos o (wd l i / 1024))))] _ [] rfl ?_
          rw [show nI i + Int32.ofInt 1 = nI (i + 1) from nI_add i 1]
          refine ar_go M_R_wordsSharedWith 1 _ 4 _ [some (.ref r), some (.ref s), some (.int (nI (cntB (shB l o) i))), some (.int (nI (i + 1))), some (.int (nI (pos o (wd l i / 1024))))] _ [] rfl ?_
          have hnx : cntB (shB l o) (i + 1) = cntB (shB l o) i := by rw [cntB]; simp [shB, hc3]
          rw [← hnx]
          exact ih (i + 1) _ (by omega) (by omega)
        · have hc3 := c2_ne_f (a := (wd o (pos o (wd l i / 1024)))) (b := (wd l i)) (by omega) (by omega) hc3
          refine ar_go M_R_wordsSharedWith 1 _ 56 _ [some (.ref r), some (.ref s), some (.int (nI (cntB (shB l o) i) + Int32.ofInt 1)), some (.int (nI i)), some (.int (nI (pos o (wd l i / 1024))))] _ [] rfl ?_
          rw [show nI (cntB (shB l o) i) + Int32.ofInt 1 = nI ((cntB (shB l o) i) + 1) from nI_add (cntB (shB l o) i) 1]
          refine ar_go M_R_wordsSharedWith 1 _ 59 _ [some (.ref r), some (.ref s), some (.int (nI ((cntB (shB l o) i) + 1))), some (.int (nI i + Int32.ofInt 1)), some (.int (nI (pos o (wd l i / 1024))))] _ [] rfl ?_
          rw [show nI i + Int32.ofInt 1 = nI (i + 1) from nI_add i 1]
          refine ar_go M_R_wordsSharedWith 1 _ 4 _ [some (.ref r), some (.ref s), some (.int (nI ((cntB (shB l o) i) + 1))), some (.int (nI (i + 1))), some (.int (nI (pos o (wd l i / 1024))))] _ [] rfl ?_
          have hnx : cntB (shB l o) (i + 1) = cntB (shB l o) i + 1 := by rw [cntB]; simp [shB, hc2, hc3]
          rw [← hnx]
          exact ih (i + 1) _ (by omega) (by omega)
theorem c_R_wordsSharedWith (X : am_X) (d : Nat) (h : am_H) {r s : Nat} {l o : Bk} (hR : isR h r l) (hR2 : isR h s o) (hrs : r < 1000) (hss : s < 1000) (hS2 : bkS o) (hW : bkW l) (hW2 : bkW o) : ar Pg X (d + 1) n_R_wordsSharedWith 0 [some (.ref r), some (.ref s), none, none, none] [] h (fun rr h' => rr = some (.int (nI (cntB (shB l o) l.length))) ∧ h' = h) := by
  refine ar_go M_R_wordsSharedWith 4 _ 4 _ [some (.ref r), some (.ref s), some (.int (nI 0)), some (.int (nI 0)), none] _ [] rfl ?_
  exact c_R_sh_loop X d h hR hR2 hrs hss hS2 hW hW2 (l.length + 1) 0 none (by omega) (by omega)
def nwB (l o : Bk) (i : Nat) : Bool := !hasAt l (pos l (wd o i / 1024)) (wd o i / 1024)
theorem c_R_cw_loop (X : am_X) (d : Nat) (h : am_H) {r s : Nat} {l o : Bk} (hR : isR h r l) (hR2 : isR h s o) (hrs : r < 1000) (hss : s < 1000) (hS : bkS l) (hW : bkW l) (hW2 : bkW o) : ∀ (k i : Nat) (x4 : Option Value), o.length - i < k → i ≤ o.length → ar Pg X (d + 1) n_R_countWith 7 [some (.ref r), some (.ref s), some (.int (nI (l.length + cntB (nwB l o) i))), some (.int (nI i)), x4] [] h (fun rr h' => rr = some (.int (nI (l.length + cntB (nwB l o) o.length))) ∧ h' = h) := by
  have hR0 := hR
  obtain ⟨hlen, hr, f, g, m, hw, hg, hm, hfa⟩ := hR
  obtain ⟨hlen2, hr2, f2, g2, m2, hw2, hg2, hm2, hfa2⟩ := hR2
  intro k
  induction k with
  | zero => intro i x4 hk; omega
  | succ k ih =>
    intro i x4 hk hil
    have hcl := cntB_le (nwB l o) i
    refine ar_go M_R_countWith 2 _ 9 _ [some (.ref r), some (.ref s), some (.int (nI (l.length + cntB (nwB l o) i))), some (.int (nI i)), x4] _ [.ref s, .int (nI i)] rfl ?_
    refine ar_get M_R_countWith rfl rfl hr2 rfl ?_
    refine ar_icmp M_R_countWith rfl rfl (fun hc => ?_) (fun hc => ?_)
    · have hc := c2_ge_t (a := i) (b := o.length) (by omega) (by omega) hc
      have hi2 : i = o.length := by omega
      refine ar_go M_R_countWith 1 _ 52 _ [some (.ref r), some (.ref s), some (.int (nI (l.length + cntB (nwB l o) i))), some (.int (nI i)), x4] _ [.int (nI (l.length + cntB (nwB l o) i))] rfl ?_
      exact ar_R M_R_countWith rfl rfl rfl rfl (⟨by rw [hi2], rfl⟩)
    · have hc := c2_ge_f (a := i) (b := o.length) (by omega) (by omega) hc
      have hwi := hW2 i (by omega)
      refine ar_go M_R_countWith 1 _ 16 _ [some (.ref r), some (.ref s), some (.int (nI (l.length + cntB (nwB l o) i))), some (.int (nI i)), x4] _ [.ref s] rfl ?_
      refine ar_get M_R_countWith rfl rfl hr2 rfl ?_
      refine ar_go M_R_countWith 1 _ 20 _ [some (.ref r), some (.ref s), some (.int (nI (l.length + cntB (nwB l o) i))), some (.int (nI i)), x4] _ [.int (nI i), .ref (s + 1)] rfl ?_
      refine ar_iald M_R_countWith rfl (by unfold am_x0; omega) hw2 (vp_in_nI (by omega) (by decide)) ?_
      rw [nI_clamp (n := i) (by omega)]
      refine ar_top (w := .int (nI (wd o i))) (congrArg Value.int ((hfa2 i (by omega)).1)) ?_
      refine ar_go M_R_countWith 1 _ 24 _ [some (.ref r), some (.ref s), some (.int (nI (l.length + cntB (nwB l o) i))), some (.int (nI i)), x4] _ [.int (nI 1024), .int (nI (wd o i))] rfl ?_
      refine ar_idiv M_R_countWith rfl (by decide) ?_
      refine ar_top (w := .int (nI ((wd o i) / 1024))) (congrArg Value.int (pk_div (by omega) (by decide) (by decide))) ?_
      refine ar_go M_R_countWith 4 _ 31 _ [some (.ref r), some (.ref s), some (.int (nI (l.length + cntB (nwB l o) i))), some (.int (nI i)), some (.int (nI ((wd o i) / 1024)))] _ [.int (nI ((wd o i) / 1024)), .ref r, .ref r] rfl ?_
      refine ar_CV M_R_countWith rfl rfl (Or.inl rfl) rfl rfl (Nat.le_of_ble_eq_true rfl) hr M_R_placeOf (Nat.le_of_ble_eq_true rfl) (c_R_pos X d _ hR0 hrs hS hW (by omega)) (fun r1 h1 hq => ?_)
      obtain ⟨rfl, rfl⟩ := hq
      refine ⟨rfl, ?_⟩
      show ar Pg _ _ _ 34 [some (.ref r), some (.ref s), some (.int (nI (l.length + cntB (nwB l o) i))), some (.int (nI i)), some (.int (nI ((wd o i) / 1024)))] [.int (nI (pos l (wd o i / 1024))), .ref r] _ _
      have hpl := (pos_pl l (wd o i / 1024) hS).1
      refine ar_go M_R_countWith 1 _ 36 _ [some (.ref r), some (.ref s), some (.int (nI (l.length + cntB (nwB l o) i))), some (.int (nI i)), some (.int (nI ((wd o i) / 1024)))] _ [.int (nI ((wd o i) / 1024)), .int (nI (pos l (wd o i / 1024))), .ref r] rfl ?_
      refine ar_CV M_R_countWith rfl rfl (Or.inl rfl) rfl rfl (Nat.le_of_ble_eq_true rfl) hr M_R_holdsAt (Nat.le_of_ble_eq_true rfl) (c_R_holdsAt X d _ hR0 hrs hW (by omega) (by omega)) (fun r1 h1 hq => ?_)
      obtain ⟨rfl, rfl⟩ := hq
      refine ⟨rfl, ?_⟩
      show ar Pg _ _ _ 39 [some (.ref r), some (.ref s), some (.int (nI (l.length + cntB (nwB l o) i))), some (.int (nI i)), some (.int (nI ((wd o i) / 1024)))] [.int (bi (hasAt l (pos l (wd o i / 1024)) (wd o i / 1024)))] _ _
      refine ar_if M_R_countWith rfl rfl (fun hc2 => ?_) (fun hc2 => ?_)
      · have hc2 := bi_ne_t hc2
        refine ar_go M_R_countWith 1 _ 48 _ [some (.ref r), some (.ref s), some (.int (nI (l.length + cntB (nwB l o) i))), some (.int (nI i + Int32.ofInt 1)), some (.int (nI ((wd o i) / 1024)))] _ [] rfl ?_
        rw [show nI i + Int32.ofInt 1 = nI (i + 1) from nI_add i 1]
        refine ar_go M_R_countWith 1 _ 7 _ [some (.ref r), some (.ref s), some (.int (nI (l.length + cntB (nwB l o) i))), some (.int (nI (i + 1))), some (.int (nI ((wd o i) / 1024)))] _ [] rfl ?_
        have hnx : cntB (nwB l o) (i + 1) = cntB (nwB l o) i := by rw [cntB]; simp [nwB, hc2]
        rw [← hnx]
        exact ih (i + 1) _ (by omega) (by omega)
      · have hc2 := bi_ne_f hc2
        refine ar_go M_R_countWith 1 _ 45 _ [some (.ref r), some (.ref s), some (.int (nI (l.length + cntB (nwB l o) i) + Int32.ofInt 1)), some (.int (nI i)), some (.int (nI ((wd o i) / 1024)))] _ [] rfl ?_
        rw [show nI (l.length + cntB (nwB l o) i) + Int32.ofInt 1 = nI ((l.length + cntB (nwB l o) i) + 1) from nI_add (l.length + cntB (nwB l o) i) 1]
        refine ar_go M_R_countWith 1 _ 48 _ [some (.ref r), some (.ref s), some (.int (nI ((l.length + cntB (nwB l o) i) + 1))), some (.int (nI i + Int32.ofInt 1)), some (.int (nI ((wd o i) / 1024)))] _ [] rfl ?_
        rw [show nI i + Int32.ofInt 1 = nI (i + 1) from nI_add i 1]
        refine ar_go M_R_countWith 1 _ 7 _ [some (.ref r), some (.ref s), some (.int (nI ((l.length + cntB (nwB l o) i) + 1))), some (.int (nI (i + 1))), some (.int (nI ((wd o i) / 1024)))] _ [] rfl ?_
        have hnx : l.length + cntB (nwB l o) i + 1 = l.length + cntB (nwB l o) (i + 1) := by rw [cntB]; simp [nwB, hc2, Nat.add_assoc]
        rw [hnx]
        exact ih (i + 1) _ (by omega) (by omega)
theorem c_R_countWith (X : am_X) (d : Nat) (h : am_H) {r s : Nat} {l o : Bk} (hR : isR h r l) (hR2 : isR h s o) (hrs : r < 1000) (hss : s < 1000) (hS : bkS l) (hW : bkW l) (hW2 : bkW o) : ar Pg X (d + 1) n_R_countWith 0 [some (.ref r), some (.ref s), none, none, none] [] h (fun rr h' => rr = some (.int (nI (l.length + cntB (nwB l o) o.length))) ∧ h' = h) := by
  have hR0 := hR
  have hR20 := hR2
  obtain ⟨hlen, hr, f, g, m, hw, hg, hm, hfa⟩ := hR
  obtain ⟨hlen2, hr2, f2, g2, m2, hw2, hg2, hm2, hfa2⟩ := hR2
  refine ar_go M_R_countWith 1 _ 1 _ [some (.ref r), some (.ref s), none, none, none] _ [.ref r] rfl ?_
  refine ar_get M_R_countWith rfl rfl hr rfl ?_
  refine ar_go M_R_countWith 3 _ 7 _ [some (.ref r), some (.ref s), some (.int (nI l.length)), some (.int (nI 0)), none] _ [] rfl ?_
  exact c_R_cw_loop X d h hR0 hR20 hrs hss hS hW hW2 (o.length + 1) 0 none (by omega) (by omega)
def en (l : Bk) (i : Nat) : Nat × Int32 × Bool := (wd l i, gd l i, dd l i)
def stA (l o : Bk) : Nat → Bk
  | 0 => l
  | i + 1 => stR (stA l o i) (en o i)
theorem stA_ok {l o : Bk} (hl : l.length ≤ 64) (hS : bkS l) (hW : bkW l) (hW2 : bkW o) : ∀ i, i ≤ o.length → (stA l o i).length ≤ 64 ∧ bkS (stA l o i) ∧ bkW (stA l o i)
  | 0, _ => ⟨hl, hS, hW⟩
  | i + 1, h => by
    obtain ⟨a, b, c⟩ := stA_ok hl hS hW hW2 i (by omega)
    exact ⟨stR_len a b _, stR_S b _, stR_W b c (hW2 i (by omega))⟩
theorem c_R_sa_loop (X : am_X) (d : Nat) (h : am_H) {r s : Nat} {l o : Bk} (hR2 : isR h s o) (hrs : r < 1000) (hss : s < 1000) (hap : s + 4 ≤ r ∨ r + 4 ≤ s) (hl0 : l.length ≤ 64) (hS : bkS l) (hW : bkW l) (hW2 : bkW o) : ∀ (k i : Nat) (h1 : am_H), o.length - i < k → i ≤ o.length → isR h1 r (stA l o i) → fr [r, r + 1, r + 2, r + 3] h h1 → ar Pg X (d + 1 + 1) n_R_storeAll 2 [some (.ref r), some (.ref s), some (.int (nI i))] [] h1 (fun rr h' => rr = none ∧ fr [r, r + 1, r + 2, r + 3] h h' ∧ isR h' r (stA l o o.length)) := by
  intro k
  induction k with
  | zero => intro i h1 hk; omega
  | succ k ih =>
    intro i h1 hk hil hR hF
    have hR21 : isR h1 s o := hR2.fr hF (by simp; omega) (by simp; omega) (by simp; omega) (by simp; omega)
    obtain ⟨hlen2, hr2, f2, g2, m2, hw2, hg2, hm2, hfa2⟩ := hR21
    refine ar_go M_R_storeAll 2 _ 4 _ [some (.ref r), some (.ref s), some (.int (nI i))] _ [.ref s, .int (nI i)] rfl ?_
    refine ar_get M_R_storeAll rfl rfl hr2 rfl ?_
    refine ar_icmp M_R_storeAll rfl rfl (fun hc => ?_) (fun hc => ?_)
    · have hc := c2_ge_t (a := i) (b := o.length) (by omega) (by omega) hc
      have hi2 : i = o.length := by omega
      exact ar_R M_R_storeAll rfl rfl rfl rfl (⟨rfl, hF, by rw [← hi2]; exact hR⟩)
    · have hc := c2_ge_f (a := i) (b := o.length) (by omega) (by omega) hc
      have hwi := hW2 i (by omega)
      obtain ⟨z1, z2, z3⟩ := stA_ok hl0 hS hW hW2 i hil
      refine ar_go M_R_storeAll 2 _ 12 _ [some (.ref r), some (.ref s), some (.int (nI i))] _ [.ref s, .ref r] rfl ?_
      refine ar_get M_R_storeAll rfl rfl hr2 rfl ?_
      refine ar_go M_R_storeAll 1 _ 16 _ [some (.ref r), some (.ref s), some (.int (nI i))] _ [.int (nI i), .ref (s + 1), .ref r] rfl ?_
      refine ar_iald M_R_storeAll rfl (by unfold am_x0; omega) hw2 (vp_in_nI (by omega) (by decide)) ?_
      rw [nI_clamp (n := i) (by omega)]
      refine ar_top (w := .int (nI (wd o i))) (congrArg Value.int ((hfa2 i (by omega)).1)) ?_
      refine ar_go M_R_storeAll 1 _ 18 _ [some (.ref r), some (.ref s), some (.int (nI i))] _ [.ref s, .int (nI (wd o i)), .ref r] rfl ?_
      refine ar_get M_R_storeAll rfl rfl hr2 rfl ?_
      refine ar_go M_R_storeAll 1 _ 22 _ [some (.ref r), some (.ref s), some (.int (nI i))] _ [.int (nI i), .ref (s + 2), .int (nI (wd o i)), .ref r] rfl ?_
      refine ar_iald M_R_storeAll rfl (by unfold am_x0; omega) hg2 (vp_in_nI (by omega) (by decide)) ?_
      rw [nI_clamp (n := i) (by omega)]
      refine ar_top (w := .int (gd o i)) (congrArg Value.int ((hfa2 i (by omega)).2.1)) ?_
      refine ar_go M_R_storeAll 1 _ 24 _ [some (.ref r), some (.ref s), some (.int (nI i))] _ [.ref s, .int (gd o i), .int (nI (wd o i)), .ref r] rfl ?_
      refine ar_get M_R_storeAll rfl rfl hr2 rfl ?_
      refine ar_go M_R_storeAll 1 _ 28 _ [some (.ref r), some (.ref s), some (.int (nI i))] _ [.int (nI i), .ref (s + 3), .int (gd o i), .int (nI (wd o i)), .ref r] rfl ?_
      refine ar_zald M_R_storeAll rfl hm2 (vp_in_nI (by omega) (by decide)) ?_
      rw [nI_clamp (n := i) (by omega)]
      refine ar_top (w := .int (bi (dd o i))) (congrArg Value.int ((hfa2 i (by omega)).2.2)) ?_
      refine ar_CV M_R_storeAll rfl rfl (Or.inl rfl) rfl rfl (Nat.le_of_ble_eq_true rfl) hR.2.1 M_R_store (Nat.le_of_ble_eq_true rfl) (c_R_store X d _ hR hrs z2 z3 hwi) (fun r1 h3 hq => ?_)
      obtain ⟨rfl, hf, hR3⟩ := hq
      refine ⟨hf.1, ?_⟩
      show ar Pg _ _ _ 32 [some (.ref r), some (.ref s), some (.int (nI i))] [] _ _
      refine ar_go M_R_storeAll 1 _ 35 _ [some (.ref r), some (.ref s), some (.int (nI i + Int32.ofInt 1))] _ [] rfl ?_
      rw [show nI i + Int32.ofInt 1 = nI (i + 1) from nI_add i 1]
      refine ar_go M_R_storeAll 1 _ 2 _ [some (.ref r), some (.ref s), some (.int (nI (i + 1)))] _ [] rfl ?_
      exact ih (i + 1) h3 (by omega) (by omega) hR3 (hF.tr hf (by simp) (by simp))
theorem c_R_storeAll (X : am_X) (d : Nat) (h : am_H) {r s : Nat} {l o : Bk} (hR : isR h r l) (hR2 : isR h s o) (hrs : r < 1000) (hss : s < 1000) (hap : s + 4 ≤ r ∨ r + 4 ≤ s) (hS : bkS l) (hW : bkW l) (hW2 : bkW o) : ar Pg X (d + 1 + 1) n_R_storeAll 0 [some (.ref r), some (.ref s), none] [] h (fun rr h' => rr = none ∧ fr [r, r + 1, r + 2, r + 3] h h' ∧ isR h' r (stA l o o.length)) := by
  refine ar_go M_R_storeAll 2 _ 2 _ [some (.ref r), some (.ref s), some (.int (nI 0))] _ [] rfl ?_
  exact c_R_sa_loop X d h hR2 hrs hss hap hR.1 hS hW hW2 (o.length + 1) 0 h (by omega) (by omega) hR (fr.rf _ _)
