/-! Records: parcels -/
def fil (P : Nat → Bool) (o : Bk) : Nat → Bk
  | 0 => []
  | i + 1 => fil P o i ++ (if P i = true then [en o i] else [])
theorem fil_len (P : Nat → Bool) (o : Bk) : ∀ i, (fil P o i).length ≤ i
  | 0 => Nat.le_refl _
  | i + 1 => by
    have := fil_len P o i
    rw [fil, List.length_append]
    split <;> simp <;> omega
theorem fil_t {P : Nat → Bool} {o : Bk} {i : Nat} (h : P i = true) : fil P o (i + 1) = fil P o i ++ [en o i] := by
  rw [fil, if_pos h]
theorem fil_f {P : Nat → Bool} {o : Bk} {i : Nat} (h : P i = false) : fil P o (i + 1) = fil P o i := by
  rw [fil, if_neg (by rw [h]; decide), List.append_nil]
theorem app_wd {l : Bk} {e : Nat × Int32 × Bool} {i : Nat} (h : i < l.length) : wd (l ++ [e]) i = wd l i ∧ gd (l ++ [e]) i = gd l i ∧ dd (l ++ [e]) i = dd l i := by
  have : (l ++ [e]).getD i (0, 0, false) = l.getD i (0, 0, false) := by
    rw [List.getD_eq_getElem?_getD, List.getD_eq_getElem?_getD, List.getElem?_append_left h]
  unfold wd gd dd
  rw [this]
  exact ⟨rfl, rfl, rfl⟩
theorem app_wl (l : Bk) (e : Nat × Int32 × Bool) : wd (l ++ [e]) l.length = e.1 ∧ gd (l ++ [e]) l.length = e.2.1 ∧ dd (l ++ [e]) l.length = e.2.2 := by
  have : (l ++ [e]).getD l.length (0, 0, false) = e := by
    rw [List.getD_eq_getElem?_getD, List.getElem?_append_right (Nat.le_refl _)]
    simp
  unfold wd gd dd
  rw [this]
  exact ⟨rfl, rfl, rfl⟩
theorem isC_app {l : Bk} {f g m : Nat → Int32} (hC : isC l f g m) (e : Nat × Int32 × Bool) : isC (l ++ [e]) (upd f l.length (nI e.1)) (upd g l.length e.2.1) (upd m l.length (bi e.2.2)) := by
  intro i hi
  rw [List.length_append, List.length_singleton] at hi
  by_cases h : i = l.length
  · subst h
    obtain ⟨a, b, c⟩ := app_wl l e
    rw [a, b, c, pk_us, pk_us, pk_us]
    exact ⟨rfl, rfl, rfl⟩
  · obtain ⟨a, b, c⟩ := app_wd (l := l) (e := e) (i := i) (by omega)
    rw [a, b, c, pk_un h, pk_un h, pk_un h]
    exact hC i (by omega)
theorem c_R_becomeAllOf_loop (X : am_X) (d : Nat) (h : am_H) {r s : Nat} {o : Bk} (hR2 : isR h s o) (hrs : r < 1000) (hss : s < 1000) (hap : s + 4 ≤ r ∨ r + 4 ≤ s) : ∀ (n i : Nat) (h1 : am_H) (f g m : Nat → Int32), o.length - i < n → i ≤ o.length → isO h1 r (nI (fil (fun _ => true) o i).length) → isA h1 r f g m → isC (fil (fun _ => true) o i) f g m → fr [r, r + 1, r + 2, r + 3] h h1 → ar Pg X (d + 1) n_R_becomeAllOf 7 [some (.ref r), some (.ref s), some (.int (nI i))] [] h1 (fun rr h' => rr = none ∧ fr [r, r + 1, r + 2, r + 3] h h' ∧ isR h' r (fil (fun _ => true) o o.length)) := by
  intro n
  induction n with
  | zero => intro i h1 f g m hk; omega
  | succ n ih =>
    intro i h1 f g m hk hil hO hA hC hF
    have hR21 : isR h1 s o := hR2.fr hF (by simp; omega) (by simp; omega) (by simp; omega) (by simp; omega)
    obtain ⟨hlen2, hr2, f2, g2, m2, hw2, hg2, hm2, hfa2⟩ := hR21
    have hcl := fil_len (fun _ => true) o i
    refine ar_go M_R_becomeAllOf 2 _ 9 _ [some (.ref r), some (.ref s), some (.int (nI i))] _ [.ref s, .int (nI i)] rfl ?_
    refine ar_get M_R_becomeAllOf rfl rfl hr2 rfl ?_
    refine ar_icmp M_R_becomeAllOf rfl rfl (fun hc => ?_) (fun hc => ?_)
    · have hc := c2_ge_t (a := i) (b := o.length) (by omega) (by omega) hc
      have hi2 : i = o.length := by omega
      exact ar_R M_R_becomeAllOf rfl rfl rfl rfl (⟨rfl, hF, by rw [← hi2]; exact isR_iff.mpr ⟨by omega, hO, _, _, _, hA, hC⟩⟩)
    · have hc := c2_ge_f (a := i) (b := o.length) (by omega) (by omega) hc
      refine ar_go M_R_becomeAllOf 4 _ 19 _ [some (.ref r), some (.ref s), some (.int (nI i))] _ [.ref r, .int (nI i), .ref s, .ref r] rfl ?_
      refine ar_get M_R_becomeAllOf rfl rfl hO rfl ?_
      refine ar_CV M_R_becomeAllOf rfl rfl (Or.inl rfl) rfl rfl (Nat.le_of_ble_eq_true rfl) hO M_R_copyRecord (Nat.le_of_ble_eq_true rfl) (c_R_copyRecord X d _ hrs hss (Or.inr hap) hO hA hr2 ⟨hw2, hg2, hm2⟩ (by omega) (by omega) (by rw [(hfa2 i (by omega)).2.2]; exact nar_bi _)) (fun r1 h2 hq => ?_)
      obtain ⟨rfl, hf, hA2⟩ := hq
      refine ⟨hf.1, ?_⟩
      have hO := hO.fr hf (by simp)
      have kk := hf
      show ar Pg _ _ _ 25 [some (.ref r), some (.ref s), some (.int (nI i))] [] _ _
      refine ar_go M_R_becomeAllOf 2 _ 27 _ [some (.ref r), some (.ref s), some (.int (nI i))] _ [.ref r, .ref r] rfl ?_
      refine ar_get M_R_becomeAllOf rfl rfl hO rfl ?_
      refine ar_go M_R_becomeAllOf 2 _ 32 _ [some (.ref r), some (.ref s), some (.int (nI i))] _ [.int ((nI (fil (fun _ => true) o i).length) + nI 1), .ref r] rfl ?_
      refine ar_put M_R_becomeAllOf rfl rfl hO (Nat.le_of_ble_eq_true rfl) rfl (Nat.le_of_ble_eq_true rfl) (fun h3 hf he => ?_)
      have hO : h3[r]? = some (.inr (1, [.ref (r + 1), .ref (r + 2), .ref (r + 3), .int ((nI (fil (fun _ => true) o i).length) + nI 1)])) := he
      refine ar_go M_R_becomeAllOf 1 _ 38 _ [some (.ref r), some (.ref s), some (.int (nI i + Int32.ofInt 1))] _ [] rfl ?_
      rw [show nI i + Int32.ofInt 1 = nI (i + 1) from nI_add i 1]
      refine ar_go M_R_becomeAllOf 1 _ 7 _ [some (.ref r), some (.ref s), some (.int (nI (i + 1)))] _ [] rfl ?_
      have hq : fil (fun _ => true) o (i + 1) = fil (fun _ => true) o i ++ [en o i] := fil_t rfl
      refine ih (i + 1) h3 _ _ _ (by omega) (by omega) ?_ (hA2.fr hf (by simp) (by simp) (by simp)) ?_ (hF.tr (kk.tr hf (l := [r, r + 1, r + 2, r + 3]) (by simp) (by simp)) (by simp) (by simp))
      · rw [hq, List.length_append]; rw [nI_add] at hO; exact hO
      · rw [hq, (hfa2 i (by omega)).1, (hfa2 i (by omega)).2.1, (hfa2 i (by omega)).2.2]; exact isC_app hC (en o i)
theorem c_R_becomeAllOf (X : am_X) (d : Nat) (h : am_H) {l : Bk} {r s : Nat} {o : Bk} (hR2 : isR h s o) (hrs : r < 1000) (hss : s < 1000) (hap : s + 4 ≤ r ∨ r + 4 ≤ s) (hR : isR h r l) : ar Pg X (d + 1) n_R_becomeAllOf 0 [some (.ref r), some (.ref s), none] [] h (fun rr h' => rr = none ∧ fr [r, r + 1, r + 2, r + 3] h h' ∧ isR h' r (fil (fun _ => true) o o.length)) := by
  obtain ⟨_, hO, f, g, m, hA, _⟩ := isR_iff.mp hR
  generalize hc0 : nI l.length = c0 at hO
  refine ar_go M_R_becomeAllOf 2 _ 2 _ [some (.ref r), some (.ref s), none] _ [.int (nI 0), .ref r] rfl ?_
  refine ar_put M_R_becomeAllOf rfl rfl hO (Nat.le_of_ble_eq_true rfl) rfl (Nat.le_of_ble_eq_true rfl) (fun h2 hf he => ?_)
  have hO : h2[r]? = some (.inr (1, [.ref (r + 1), .ref (r + 2), .ref (r + 3), .int (nI 0)])) := he
  refine ar_go M_R_becomeAllOf 2 _ 7 _ [some (.ref r), some (.ref s), some (.int (nI 0))] _ [] rfl ?_
  exact c_R_becomeAllOf_loop X d h hR2 hrs hss hap (o.length + 1) 0 h2 _ _ _ (by omega) (by omega) hO (hA.fr hf (by simp) (by simp) (by simp)) (fun i hi => absurd hi (Nat.not_lt_zero _)) (hf.mono (by simp))
def zrB (k : Nat) (A : Nat → Nat) (o : Bk) (i : Nat) : Bool := decide (hvS A (wd o i) k 0 = 0)
theorem c_R_becomeZerosAmong_loop (X : am_X) (d : Nat) (h : am_H) {r s : Nat} {o : Bk} {y k : Nat} {A : Nat → Nat} (hP : isP h y k A) (hys : y < 1000) (hyr : y + 2 ≤ r ∨ r + 4 ≤ y) (hW2 : bkW o) (hR2 : isR h s o) (hrs : r < 1000) (hss : s < 1000) (hap : s + 4 ≤ r ∨ r + 4 ≤ s) : ∀ (n i : Nat) (h1 : am_H) (f g m : Nat → Int32), o.length - i < n → i ≤ o.length → isO h1 r (nI (fil (zrB k A o) o i).length) → isA h1 r f g m → isC (fil (zrB k A o) o i) f g m → fr [r, r + 1, r + 2, r + 3] h h1 → ar Pg X (d + 1 + 1) n_R_becomeZerosAmong 7 [some (.ref r), some (.ref s), some (.ref y), some (.int (nI i))] [] h1 (fun rr h' => rr = none ∧ fr [r, r + 1, r + 2, r + 3] h h' ∧ isR h' r (fil (zrB k A o) o o.length)) := by
  intro n
  induction n with
  | zero => intro i h1 f g m hk; omega
  | succ n ih =>
    intro i h1 f g m hk hil hO hA hC hF
    have hR21 : isR h1 s o := hR2.fr hF (by simp; omega) (by simp; omega) (by simp; omega) (by simp; omega)
    obtain ⟨hlen2, hr2, f2, g2, m2, hw2, hg2, hm2, hfa2⟩ := hR21
    have hcl := fil_len (zrB k A o) o i
    refine ar_go M_R_becomeZerosAmong 2 _ 9 _ [some (.ref r), some (.ref s), some (.ref y), some (.int (nI i))] _ [.ref s, .int (nI i)] rfl ?_
    refine ar_get M_R_becomeZerosAmong rfl rfl hr2 rfl ?_
    refine ar_icmp M_R_becomeZerosAmong rfl rfl (fun hc => ?_) (fun hc => ?_)
    · have hc := c2_ge_t (a := i) (b := o.length) (by omega) (by omega) hc
      have hi2 : i = o.length := by omega
      exact ar_R M_R_becomeZerosAmong rfl rfl rfl rfl (⟨rfl, hF, by rw [← hi2]; exact isR_iff.mpr ⟨by omega, hO, _, _, _, hA, hC⟩⟩)
    · have hc := c2_ge_f (a := i) (b := o.length) (by omega) (by omega) hc
      have hwi := hW2 i (by omega)
      have hPn := hP.fr hF (by simp; omega) (by simp; omega)
      refine ar_go M_R_becomeZerosAmong 2 _ 17 _ [some (.ref r), some (.ref s), some (.ref y), some (.int (nI i))] _ [.ref s, .ref y] rfl ?_
      refine ar_get M_R_becomeZerosAmong rfl rfl hr2 rfl ?_
      refine ar_go M_R_becomeZerosAmong 1 _ 21 _ [some (.ref r), some (.ref s), some (.ref y), some (.int (nI i))] _ [.int (nI i), .ref (s + 1), .ref y] rfl ?_
      refine ar_iald M_R_becomeZerosAmong rfl (by unfold am_x0; omega) hw2 (vp_in_nI (by omega) (by decide)) ?_
      rw [nI_clamp (n := i) (by omega)]
      refine ar_top (w := .int (nI (wd o i))) (congrArg Value.int ((hfa2 i (by omega)).1)) ?_
      refine ar_go M_R_becomeZerosAmong 1 _ 23 _ [some (.ref r), some (.ref s), some (.ref y), some (.int (nI i))] _ [.long ((nI (wd o i)).toInt64), .ref y] rfl ?_
      refine ar_top (w := .long (lN (wd o i))) (congrArg Value.long (nI_l (by omega))) ?_
      refine ar_CV M_R_becomeZerosAmong rfl rfl (Or.inl rfl) rfl rfl (Nat.le_of_ble_eq_true rfl) hPn.2.1 M_Y_valueAt (Nat.le_of_ble_eq_true rfl) (c_Y_valueAt X d _ hPn hys (by omega)) (fun r1 h1 hq => ?_)
      obtain ⟨rfl, rfl⟩ := hq
      refine ⟨rfl, ?_⟩
      show ar Pg _ _ _ 26 [some (.ref r), some (.ref s), some (.ref y), some (.int (nI i))] [.long (lN (hvS A (wd o i) k 0))] _ _
      have hvl := hvS_lt A (wd o i) k 0
      refine ar_go M_R_becomeZerosAmong 2 _ 28 _ [some (.ref r), some (.ref s), some (.ref y), some (.int (nI i))] _ [.int (lg_cmp (lN (hvS A (wd o i) k 0)) (lN 0))] rfl ?_
      refine ar_top (w := .int (if hvS A (wd o i) k 0 = 0 then 0 else 1)) (congrArg Value.int (lcmp0 hvl)) ?_
      by_cases h0 : hvS A (wd o i) k 0 = 0
      · rw [if_pos h0]
        have hp : zrB k A o i = true := decide_eq_true h0
        refine ar_if M_R_becomeZerosAmong rfl rfl (fun z => absurd z (by decide)) (fun _ => ?_)
        refine ar_go M_R_becomeZerosAmong 4 _ 35 _ [some (.ref r), some (.ref s), some (.ref y), some (.int (nI i))] _ [.ref r, .int (nI i), .ref s, .ref r] rfl ?_
        refine ar_get M_R_becomeZerosAmong rfl rfl hO rfl ?_
        refine ar_CV M_R_becomeZerosAmong rfl rfl (Or.inl rfl) rfl rfl (Nat.le_of_ble_eq_true rfl) hO M_R_copyRecord (Nat.le_of_ble_eq_true rfl) (c_R_copyRecord X (d + 1) _ hrs hss (Or.inr hap) hO hA hr2 ⟨hw2, hg2, hm2⟩ (by omega) (by omega) (by rw [(hfa2 i (by omega)).2.2]; exact nar_bi _)) (fun r1 h2 hq => ?_)
        obtain ⟨rfl, hf, hA2⟩ := hq
        refine ⟨hf.1, ?_⟩
        have hO := hO.fr hf (by simp)
        have kk := hf
        show ar Pg _ _ _ 41 [some (.ref r), some (.ref s), some (.ref y), some (.int (nI i))] [] _ _
        refine ar_go M_R_becomeZerosAmong 2 _ 43 _ [some (.ref r), some (.ref s), some (.ref y), some (.int (nI i))] _ [.ref r, .ref r] rfl ?_
        refine ar_get M_R_becomeZerosAmong rfl rfl hO rfl ?_
        refine ar_go M_R_becomeZerosAmong 2 _ 48 _ [some (.ref r), some (.ref s), some (.ref y), some (.int (nI i))] _ [.int ((nI (fil (zrB k A o) o i).length) + nI 1), .ref r] rfl ?_
        refine ar_put M_R_becomeZerosAmong rfl rfl hO (Nat.le_of_ble_eq_true rfl) rfl (Nat.le_of_ble_eq_true rfl) (fun h3 hf he => ?_)
        have hO : h3[r]? = some (.inr (1, [.ref (r + 1), .ref (r + 2), .ref (r + 3), .int ((nI (fil (zrB k A o) o i).length) + nI 1)])) := he
        refine ar_go M_R_becomeZerosAmong 1 _ 54 _ [some (.ref r), some (.ref s), some (.ref y), some (.int (nI i + Int32.ofInt 1))] _ [] rfl ?_
        rw [show nI i + Int32.ofInt 1 = nI (i + 1) from nI_add i 1]
        refine ar_go M_R_becomeZerosAmong 1 _ 7 _ [some (.ref r), some (.ref s), some (.ref y), some (.int (nI (i + 1)))] _ [] rfl ?_
        have hq : fil (zrB k A o) o (i + 1) = fil (zrB k A o) o i ++ [en o i] := fil_t hp
        refine ih (i + 1) h3 _ _ _ (by omega) (by omega) ?_ (hA2.fr hf (by simp) (by simp) (by simp)) ?_ (hF.tr (kk.tr hf (l := [r, r + 1, r + 2, r + 3]) (by simp) (by simp)) (by simp) (by simp))
        · rw [hq, List.length_append]; rw [nI_add] at hO; exact hO
        · rw [hq, (hfa2 i (by omega)).1, (hfa2 i (by omega)).2.1, (hfa2 i (by omega)).2.2]; exact isC_app hC (en o i)
      · rw [if_neg h0]
        have hp : zrB k A o i = false := decide_eq_false h0
        refine ar_if M_R_becomeZerosAmong rfl rfl (fun _ => ?_) (fun z => absurd z (by decide))
        refine ar_go M_R_becomeZerosAmong 1 _ 54 _ [some (.ref r), some (.ref s), some (.ref y), some (.int (nI i + Int32.ofInt 1))] _ [] rfl ?_
        rw [show nI i + Int32.ofInt 1 = nI (i + 1) from nI_add i 1]
        refine ar_go M_R_becomeZerosAmong 1 _ 7 _ [some (.ref r), some (.ref s), some (.ref y), some (.int (nI (i + 1)))] _ [] rfl ?_
        rw [← fil_f (P := zrB k A o) (o := o) hp] at hO hC
        exact ih (i + 1) h1 _ _ _ (by omega) (by omega) hO hA hC hF
theorem c_R_becomeZerosAmong (X : am_X) (d : Nat) (h : am_H) {l : Bk} {r s : Nat} {o : Bk} {y k : Nat} {A : Nat → Nat} (hP : isP h y k A) (hys : y < 1000) (hyr : y + 2 ≤ r ∨ r + 4 ≤ y) (hW2 : bkW o) (hR2 : isR h s o) (hrs : r < 1000) (hss : s < 1000) (hap : s + 4 ≤ r ∨ r + 4 ≤ s) (hR : isR h r l) : ar Pg X (d + 1 + 1) n_R_becomeZerosAmong 0 [some (.ref r), some (.ref s), some (.ref y), none] [] h (fun rr h' => rr = none ∧ fr [r, r + 1, r + 2, r + 3] h h' ∧ isR h' r (fil (zrB k A o) o o.length)) := by
  obtain ⟨_, hO, f, g, m, hA, _⟩ := isR_iff.mp hR
  generalize hc0 : nI l.length = c0 at hO
  refine ar_go M_R_becomeZerosAmong 2 _ 2 _ [some (.ref r), some (.ref s), some (.ref y), none] _ [.int (nI 0), .ref r] rfl ?_
  refine ar_put M_R_becomeZerosAmong rfl rfl hO (Nat.le_of_ble_eq_true rfl) rfl (Nat.le_of_ble_eq_true rfl) (fun h2 hf he => ?_)
  have hO : h2[r]? = some (.inr (1, [.ref (r + 1), .ref (r + 2), .ref (r + 3), .int (nI 0)])) := he
  refine ar_go M_R_becomeZerosAmong 2 _ 7 _ [some (.ref r), some (.ref s), some (.ref y), some (.int (nI 0))] _ [] rfl ?_
  exact c_R_becomeZerosAmong_loop X d h hP hys hyr hW2 hR2 hrs hss hap (o.length + 1) 0 h2 _ _ _ (by omega) (by omega) hO (hA.fr hf (by simp) (by simp) (by simp)) (fun i hi => absurd hi (Nat.not_lt_zero _)) (hf.mono (by simp))
def knB (l o : Bk) (i : Nat) : Bool := !hasAt o (pos o (wd l i / 1024)) (wd l i / 1024) || decide (wd o (pos o (wd l i / 1024)) < wd l i)
theorem c_R_kn_loop (X : am_X) (d : Nat) (h : am_H) {r s : Nat} {l o : Bk} (hR2 : isR h s o) (hlen : l.length ≤ 64) (hrs : r < 1000) (hss : s < 1000) (hap : s + 4 ≤ r ∨ r + 4 ≤ s) (hS2 : bkS o) (hW2 : bkW o) (hW : bkW l) : ∀ (n i : Nat) (h1 : am_H) (f g m : Nat → Int32) (x4 x5 : Option Value), l.length - i < n → i ≤ l.length → isO h1 r (nI (fil (knB l o) l i).length) → isA h1 r f g m → isC (fil (knB l o) l i) f g m → (∀ j, i ≤ j → j < l.length → f j = nI (wd l j) ∧ g j = gd l j ∧ m j = bi (dd l j)) → fr [r, r + 1, r + 2, r + 3] h h1 → ar Pg X (d + 1) n_R_keepNewsFor 12 [some (.ref r), some (.ref s), some (.int (nI l.length)), some (.int (nI i)), x4, x5] [] h1 (fun rr h' => rr = none ∧ fr [r, r + 1, r + 2, r + 3] h h' ∧ isR h' r (fil (knB l o) l l.length)) := by
  intro n
  induction n with
  | zero => intro i h1 f g m x4 x5 hk; omega
  | succ n ih =>
    intro i h1 f g m x4 x5 hk hil hO hA hC hT hF
    have hR21 : isR h1 s o := hR2.fr hF (by simp; omega) (by simp; omega) (by simp; omega) (by simp; omega)
    have hR210 := hR21
    obtain ⟨hlen2, hr2, f2, g2, m2, hw2, hg2, hm2, hfa2⟩ := hR210
    have hcl := fil_len (knB l o) l i
    refine ar_go M_R_keepNewsFor 2 _ 14 _ [some (.ref r), some (.ref s), some (.int (nI l.length)), some (.int (nI i)), x4, x5] _ [.int (nI l.length), .int (nI i)] rfl ?_
    refine ar_icmp M_R_keepNewsFor rfl rfl (fun hc => ?_) (fun hc => ?_)
    · have hc := c2_ge_t (a := i) (b := l.length) (by omega) (by omega) hc
      have hi2 : i = l.length := by omega
      exact ar_R M_R_keepNewsFor rfl rfl rfl rfl (⟨rfl, hF, by rw [← hi2]; exact isR_iff.mpr ⟨by omega, hO, _, _, _, hA, hC⟩⟩)
    · have hc := c2_ge_f (a := i) (b := l.length) (by omega) (by omega) hc
      have hwi := hW i (by omega)
      have hti := hT i (Nat.le_refl _) (by omega)
      refine ar_go M_R_keepNewsFor 1 _ 18 _ [some (.ref r), some (.ref s), some (.int (nI l.length)), some (.int (nI i)), x4, x5] _ [.ref r] rfl ?_
      refine ar_get M_R_keepNewsFor rfl rfl hO rfl ?_
      refine ar_go M_R_keepNewsFor 1 _ 22 _ [some (.ref r), some (.ref s), some (.int (nI l.length)), some (.int (nI i)), x4, x5] _ [.int (nI i), .ref (r + 1)] rfl ?_
      refine ar_iald M_R_keepNewsFor rfl (by unfold am_x0; omega) hA.1 (vp_in_nI (by omega) (by decide)) ?_
      rw [nI_clamp (n := i) (by omega)]
      refine ar_top (w := .int (nI (wd l i))) (congrArg Value.int hti.1) ?_
      refine ar_go M_R_keepNewsFor 1 _ 26 _ [some (.ref r), some (.ref s), some (.int (nI l.length)), some (.int (nI i)), x4, x5] _ [.int (nI 1024), .int (nI (wd l i))] rfl ?_
      refine ar_idiv M_R_keepNewsFor rfl (by decide) ?_
      refine ar_top (w := .int (nI ((wd l i) / 1024))) (congrArg Value.int (pk_div (by omega) (by decide) (by decide))) ?_
      refine ar_go M_R_keepNewsFor 3 _ 32 _ [some (.ref r), some (.ref s), some (.int (nI l.length)), some (.int (nI i)), some (.int (nI ((wd l i) / 1024))), x5] _ [.int (nI ((wd l i) / 1024)), .ref s] rfl ?_
      refine ar_CV M_R_keepNewsFor rfl rfl (Or.inl rfl) rfl rfl (Nat.le_of_ble_eq_true rfl) hr2 M_R_placeOf (Nat.le_of_ble_eq_true rfl) (c_R_pos X d _ hR21 hss hS2 hW2 (by omega)) (fun r1 h1 hq => ?_)
      obtain ⟨rfl, rfl⟩ := hq
      refine ⟨rfl, ?_⟩
      show ar Pg _ _ _ 35 [some (.ref r), some (.ref s), some (.int (nI l.length)), some (.int (nI i)), some (.int (nI ((wd l i) / 1024))), x5] [.int (nI (pos o (wd l i / 1024)))] _ _
      have hpl := (pos_pl o (wd l i / 1024) hS2).1
      refine ar_go M_R_keepNewsFor 4 _ 42 _ [some (.ref r), some (.ref s), some (.int (nI l.length)), some (.int (nI i)), some (.int (nI ((wd l i) / 1024))), some (.int (nI (pos o (wd l i / 1024))))] _ [.int (nI ((wd l i) / 1024)), .int (nI (pos o (wd l i / 1024))), .ref s] rfl ?_
      refine ar_CV M_R_keepNewsFor rfl rfl (Or.inl rfl) rfl rfl (Nat.le_of_ble_eq_true rfl) hr2 M_R_holdsAt (Nat.le_of_ble_eq_true rfl) (c_R_holdsAt X d _ hR21 hss hW2 (by omega) (by omega)) (fun r1 h1 hq => ?_)
      obtain ⟨rfl, rfl⟩ := hq
      refine ⟨rfl, ?_⟩
      show ar Pg _ _ _ 45 [some (.ref r), some (.ref s), some (.int (nI l.length)), some (.int (nI i)), some (.int (nI ((wd l i) / 1024))), some (.int (nI (pos o (wd l i / 1024))))] [.int (bi (hasAt o (pos o (wd l i / 1024)) (wd l i / 1024)))] _ _
      refine ar_if M_R_keepNewsFor rfl rfl (fun hc2 => ?_) (fun hc2 => ?_)
      · have hc2 := bi_eq_t hc2
        have hp : knB l o i = true := by simp [knB, hc2]
        refine ar_go M_R_keepNewsFor 4 _ 68 _ [some (.ref r), some (.ref s), some (.int (nI l.length)), some (.int (nI i)), some (.int (nI ((wd l i) / 1024))), some (.int (nI (pos o (wd l i / 1024))))] _ [.ref r, .int (nI i), .ref r, .ref r] rfl ?_
        refine ar_get M_R_keepNewsFor rfl rfl hO rfl ?_
        refine ar_CV M_R_keepNewsFor rfl rfl (Or.inl rfl) rfl rfl (Nat.le_of_ble_eq_true rfl) hO M_R_copyRecord (Nat.le_of_ble_eq_true rfl) (c_R_copyRecord X d _ hrs hrs (Or.inl rfl) hO hA hO hA (by omega) (by omega) (by rw [(hT i (Nat.le_refl _) (by omega)).2.2]; exact nar_bi _)) (fun r1 h2 hq => ?_)
        obtain ⟨rfl, hf, hA2⟩ := hq
        refine ⟨hf.1, ?_⟩
        have hO := hO.fr hf (by simp)
        have kk := hf
        show ar Pg _ _ _ 74 [some (.ref r), some (.ref s), some (.int (nI l.length)), some (.int (nI i)), some (.int (nI ((wd l i) / 1024))), some (.int (nI (pos o (wd l i / 1024))))] [] _ _
        refine ar_go M_R_keepNewsFor 2 _ 76 _ [some (.ref r), some (.ref s), some (.int (nI l.length)), some (.int (nI i)), some (.int (nI ((wd l i) / 1024))), some (.int (nI (pos o (wd l i / 1024))))] _ [.ref r, .ref r] rfl ?_
        refine ar_get M_R_keepNewsFor rfl rfl hO rfl ?_
        refine ar_go M_R_keepNewsFor 2 _ 81 _ [some (.ref r), some (.ref s), some (.int (nI l.length)), some (.int (nI i)), some (.int (nI ((wd l i) / 1024))), some (.int (nI (pos o (wd l i / 1024))))] _ [.int ((nI (fil (knB l o) l i).length) + nI 1), .ref r] rfl ?_
        refine ar_put M_R_keepNewsFor rfl rfl hO (Nat.le_of_ble_eq_true rfl) rfl (Nat.le_of_ble_eq_true rfl) (fun h3 hf he => ?_)
        have hO : h3[r]? = some (.inr (1, [.ref (r + 1), .ref (r + 2), .ref (r + 3), .int ((nI (fil (knB l o) l i).length) + nI 1)])) := he
        refine ar_go M_R_keepNewsFor 1 _ 87 _ [some (.ref r), some (.ref s), some (.int (nI l.length)), some (.int (nI i + Int32.ofInt 1)), some (.int (nI ((wd l i) / 1024))), some (.int (nI (pos o (wd l i / 1024))))] _ [] rfl ?_
        rw [show nI i + Int32.ofInt 1 = nI (i + 1) from nI_add i 1]
        refine ar_go M_R_keepNewsFor 1 _ 12 _ [some (.ref r), some (.ref s), some (.int (nI l.length)), some (.int (nI (i + 1))), some (.int (nI ((wd l i) / 1024))), some (.int (nI (pos o (wd l i / 1024))))] _ [] rfl ?_
        have hq : fil (knB l o) l (i + 1) = fil (knB l o) l i ++ [en l i] := fil_t hp
        have hti := hT i (Nat.le_refl _) (by omega)
        refine ih (i + 1) h3 _ _ _ _ _ (by omega) (by omega) ?_ (hA2.fr hf (by simp) (by simp) (by simp)) ?_ (fun j j1 j2 => ?_) (hF.tr (kk.tr hf (l := [r, r + 1, r + 2, r + 3]) (by simp) (by simp)) (by simp) (by simp))
        · rw [hq, List.length_append]; rw [nI_add] at hO; exact hO
        · rw [hq, hti.1, hti.2.1, hti.2.2]; exact isC_app hC (en l i)
        · rw [pk_un (by omega), pk_un (by omega), pk_un (by omega)]; exact hT j (by omega) j2
      · have hc2 := bi_eq_f hc2
        have hh := hasAt_iff.mp hc2
        have hwp := hW2 _ hh.1
        refine ar_go M_R_keepNewsFor 1 _ 49 _ [some (.ref r), some (.ref s), some (.int (nI l.length)), some (.int (nI i)), some (.int (nI ((wd l i) / 1024))), some (.int (nI (pos o (wd l i / 1024))))] _ [.ref s] rfl ?_
        refine ar_get M_R_keepNewsFor rfl rfl hr2 rfl ?_
        refine ar_go M_R_keepNewsFor 1 _ 54 _ [some (.ref r), some (.ref s), some (.int (nI l.length)), some (.int (nI i)), some (.int (nI ((wd l i) / 1024))), some (.int (nI (pos o (wd l i / 1024))))] _ [.int (nI (pos o (wd l i / 1024))), .ref (s + 1)] rfl ?_
        refine ar_iald M_R_keepNewsFor rfl (by unfold am_x0; omega) hw2 (vp_in_nI (by omega) (by decide)) ?_
        rw [nI_clamp (n := (pos o (wd l i / 1024))) (by omega)]
        refine ar_top (w := .int (nI (wd o (pos o (wd l i / 1024))))) (congrArg Value.int ((hfa2 _ hh.1).1)) ?_
        refine ar_go M_R_keepNewsFor 1 _ 56 _ [some (.ref r), some (.ref s), some (.int (nI l.length)), some (.int (nI i)), some (.int (nI ((wd l i) / 1024))), some (.int (nI (pos o (wd l i / 1024))))] _ [.ref r, .int (nI (wd o (pos o (wd l i / 1024))))] rfl ?_
        refine ar_get M_R_keepNewsFor rfl rfl hO rfl ?_
        refine ar_go M_R_keepNewsFor 1 _ 60 _ [some (.ref r), some (.ref s), some (.int (nI l.length)), some (.int (nI i)), some (.int (nI ((wd l i) / 1024))), some (.int (nI (pos o (wd l i / 1024))))] _ [.int (nI i), .ref (r + 1), .int (nI (wd o (pos o (wd l i / 1024))))] rfl ?_
        refine ar_iald M_R_keepNewsFor rfl (by unfold am_x0; omega) hA.1 (vp_in_nI (by omega) (by decide)) ?_
        rw [nI_clamp (n := i) (by omega)]
        refine ar_top (w := .int (nI (wd l i))) (congrArg Value.int hti.1) ?_
        refine ar_icmp M_R_keepNewsFor rfl rfl (fun hc3 => ?_) (fun hc3 => ?_)
        · have hc3 := c2_ge_t (a := (wd o (pos o (wd l i / 1024)))) (b := (wd l i)) (by omega) (by omega) hc3
          have hp : knB l o i = false := by simp [knB, hc2, hc3]
          refine ar_go M_R_keepNewsFor 1 _ 87 _ [some (.ref r), some (.ref s), some (.int (nI l.length)), some (.int (nI i + Int32.ofInt 1)), some (.int (nI ((wd l i) / 1024))), some (.int (nI (pos o (wd l i / 1024))))] _ [] rfl ?_
          rw [show nI i + Int32.ofInt 1 = nI (i + 1) from nI_add i 1]
          refine ar_go M_R_keepNewsFor 1 _ 12 _ [some (.ref r), some (.ref s), some (.int (nI l.length)), some (.int (nI (i + 1))), some (.int (nI ((wd l i) / 1024))), some (.int (nI (pos o (wd l i / 1024))))] _ [] rfl ?_
          rw [← fil_f (P := knB l o) (o := l) hp] at hO hC
          exact ih (i + 1) h1 _ _ _ _ _ (by omega) (by omega) hO hA hC (fun j j1 j2 => hT j (by omega) j2) hF
        · have hc3 := c2_ge_f (a := (wd o (pos o (wd l i / 1024)))) (b := (wd l i)) (by omega) (by omega) hc3
          have hp : knB l o i = true := by simp [knB, hc2, hc3]
          refine ar_go M_R_keepNewsFor 4 _ 68 _ [some (.ref r), some (.ref s), some (.int (nI l.length)), some (.int (nI i)), some (.int (nI ((wd l i) / 1024))), some (.int (nI (pos o (wd l i / 1024))))] _ [.ref r, .int (nI i), .ref r, .ref r] rfl ?_
          refine ar_get M_R_keepNewsFor rfl rfl hO rfl ?_
          refine ar_CV M_R_keepNewsFor rfl rfl (Or.inl rfl) rfl rfl (Nat.le_of_ble_eq_true rfl) hO M_R_copyRecord (Nat.le_of_ble_eq_true rfl) (c_R_copyRecord X d _ hrs hrs (Or.inl rfl) hO hA hO hA (by omega) (by omega) (by rw [(hT i (Nat.le_refl _) (by omega)).2.2]; exact nar_bi _)) (fun r1 h2 hq => ?_)
          obtain ⟨rfl, hf, hA2⟩ := hq
          refine ⟨hf.1, ?_⟩
          have hO := hO.fr hf (by simp)
          have kk := hf
          show ar Pg _ _ _ 74 [some (.ref r), some (.ref s), some (.int (nI l.length)), some (.int (nI i)), some (.int (nI ((wd l i) / 1024))), some (.int (nI (pos o (wd l i / 1024))))] [] _ _
          refine ar_go M_R_keepNewsFor 2 _ 76 _ [some (.ref r), some (.ref s), some (.int (nI l.length)), some (.int (nI i)), some (.int (nI ((wd l i) / 1024))), some (.int (nI (pos o (wd l i / 1024))))] _ [.ref r, .ref r] rfl ?_
          refine ar_get M_R_keepNewsFor rfl rfl hO rfl ?_
          refine ar_go M_R_keepNewsFor 2 _ 81 _ [some (.ref r), some (.ref s), some (.int (nI l.length)), some (.int (nI i)), some (.int (nI ((wd l i) / 1024))), some (.int (nI (pos o (wd l i / 1024))))] _ [.int ((nI (fil (knB l o) l i).length) + nI 1), .ref r] rfl ?_
          refine ar_put M_R_keepNewsFor rfl rfl hO (Nat.le_of_ble_eq_true rfl) rfl (Nat.le_of_ble_eq_true rfl) (fun h3 hf he => ?_)
          have hO : h3[r]? = some (.inr (1, [.ref (r + 1), .ref (r + 2), .ref (r + 3), .int ((nI (fil (knB l o) l i).length) + nI 1)])) := he
          refine ar_go M_R_keepNewsFor 1 _ 87 _ [some (.ref r), some (.ref s), some (.int (nI l.length)), some (.int (nI i + Int32.ofInt 1)), some (.int (nI ((wd l i) / 1024))), some (.int (nI (pos o (wd l i / 1024))))] _ [] rfl ?_
          rw [show nI i + Int32.ofInt 1 = nI (i + 1) from nI_add i 1]
          refine ar_go M_R_keepNewsFor 1 _ 12 _ [some (.ref r), some (.ref s), some (.int (nI l.length)), some (.int (nI (i + 1))), some (.int (nI ((wd l i) / 1024))), some (.int (nI (pos o (wd l i / 1024))))] _ [] rfl ?_
          have hq : fil (knB l o) l (i + 1) = fil (knB l o) l i ++ [en l i] := fil_t hp
          have hti := hT i (Nat.le_refl _) (by omega)
          refine ih (i + 1) h3 _ _ _ _ _ (by omega) (by omega) ?_ (hA2.fr hf (by simp) (by simp) (by simp)) ?_ (fun j j1 j2 => ?_) (hF.tr (kk.tr hf (l := [r, r + 1, r + 2, r + 3]) (by simp) (by simp)) (by simp) (by simp))
          · rw [hq, List.length_append]; rw [nI_add] at hO; exact hO
          · rw [hq, hti.1, hti.2.1, hti.2.2]; exact isC_app hC (en l i)
          · rw [pk_un (by omega), pk_un (by omega), pk_un (by omega)]; exact hT j (by omega) j2
theorem c_R_keepNewsFor (X : am_X) (d : Nat) (h : am_H) {r s : Nat} {l o : Bk} (hR2 : isR h s o) (hlen : l.length ≤ 64) (hrs : r < 1000) (hss : s < 1000) (hap : s + 4 ≤ r ∨ r + 4 ≤ s) (hS2 : bkS o) (hW2 : bkW o) (hW : bkW l) (hR : isR h r l) : ar Pg X (d + 1) n_R_keepNewsFor 0 [some (.ref r), some (.ref s), none, none, none, none] [] h (fun rr h' => rr = none ∧ fr [r, r + 1, r + 2, r + 3] h h' ∧ isR h' r (fil (knB l o) l l.length)) := by
  obtain ⟨_, hO, f, g, m, hA, hC⟩ := isR_iff.mp hR
  refine ar_go M_R_keepNewsFor 1 _ 1 _ [some (.ref r), some (.ref s), none, none, none, none] _ [.ref r] rfl ?_
  refine ar_get M_R_keepNewsFor rfl rfl hO rfl ?_
  refine ar_go M_R_keepNewsFor 3 _ 7 _ [some (.ref r), some (.ref s), some (.int (nI l.length)), none, none, none] _ [.int (nI 0), .ref r] rfl ?_
  refine ar_put M_R_keepNewsFor rfl rfl hO (Nat.le_of_ble_eq_true rfl) rfl (Nat.le_of_ble_eq_true rfl) (fun h2 hf he => ?_)
  have hO : h2[r]? = some (.inr (1, [.ref (r + 1), .ref (r + 2), .ref (r + 3), .int (nI 0)])) := he
  refine ar_go M_R_keepNewsFor 2 _ 12 _ [some (.ref r), some (.ref s), some (.int (nI l.length)), some (.int (nI 0)), none, none] _ [] rfl ?_
  exact c_R_kn_loop X d h hR2 hlen hrs hss hap hS2 hW2 hW (l.length + 1) 0 h2 _ _ _ _ _ (by omega) (by omega) hO (hA.fr hf (by simp) (by simp) (by simp)) (fun i hi => absurd hi (Nat.not_lt_zero _)) (fun j _ hj => hC j hj) (hf.mono (by simp))
