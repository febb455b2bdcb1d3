/-! Records: store, and what walks over all records -/
theorem c_R_pos (X : am_X) (d : Nat) (h : am_H) {r n : Nat} {l : Bk} (hR : isR h r l) (hrs : r < 1000) (hS : bkS l) (hW : bkW l) (hn : n < 2 ^ 31) : ar Pg X d n_R_placeOf 0 [some (.ref r), some (.int (nI n)), none, none, none] [] h (fun rr h' => rr = some (.int (nI (pos l n))) ∧ h' = h) :=
  ar_mono (c_R_placeOf X d h hR hrs hS hW hn) (fun rr h' ⟨p, h1, h2, h3⟩ => ⟨by rw [h2, h1.uniq (pos_pl l n hS)], h3⟩)
theorem isC_set {l : Bk} {f g m : Nat → Int32} (hC : isC l f g m) {p : Nat} (hp : p < l.length) (e : Nat × Int32 × Bool) : isC (l.set p e) (upd f p (nI e.1)) (upd g p e.2.1) (upd m p (bi e.2.2)) := by
  intro i hi
  rw [List.length_set] at hi
  rw [set_wd hp, set_gd hp, set_dd hp]
  by_cases h : i = p
  · subst h
    rw [if_pos rfl, if_pos rfl, if_pos rfl, pk_us, pk_us, pk_us]
    exact ⟨rfl, rfl, rfl⟩
  · rw [if_neg h, if_neg h, if_neg h, pk_un h, pk_un h, pk_un h]
    exact hC i hi
theorem isC_ins {l : Bk} {f0 g0 m0 f g m : Nat → Int32} (hC : isC l f0 g0 m0) {p : Nat} (hp : p ≤ l.length) (h1 : shf f f0 p l.length) (h2 : shf g g0 p l.length) (h3 : shf m m0 p l.length) (e : Nat × Int32 × Bool) : isC (insP l p e) (upd f p (nI e.1)) (upd g p e.2.1) (upd m p (bi e.2.2)) := by
  intro i hi
  rw [insP_len hp] at hi
  rw [insP_wd hp, insP_gd hp, insP_dd hp]
  by_cases a : i < p
  · rw [if_pos a, if_pos a, if_pos a, pk_un (by omega), pk_un (by omega), pk_un (by omega), h1.1 i (by omega), h2.1 i (by omega), h3.1 i (by omega)]
    exact hC i (by omega)
  · rw [if_neg a, if_neg a, if_neg a]
    by_cases b : i = p
    · subst b
      rw [if_pos rfl, if_pos rfl, if_pos rfl, pk_us, pk_us, pk_us]
      exact ⟨rfl, rfl, rfl⟩
    · rw [if_neg b, if_neg b, if_neg b, pk_un b, pk_un b, pk_un b, h1.2 i (by omega) (by omega), h2.2 i (by omega) (by omega), h3.2 i (by omega) (by omega)]
      exact hC (i - 1) (by omega)
theorem c_R_store (X : am_X) (d : Nat) (h : am_H) {r W : Nat} {gr : Int32} {bb : Bool} {l : Bk} (hR : isR h r l) (hrs : r < 1000) (hS : bkS l) (hW : bkW l) (hWW : W < 1073741824) : ar Pg X (d + 1) n_R_store 0 [some (.ref r), some (.int (nI W)), some (.int gr), some (.int (bi bb)), none, none] [] h (fun rr h' => rr = none ∧ fr [r, r + 1, r + 2, r + 3] h h' ∧ isR h' r (stR l (W, gr, bb))) := by
  have hR0 := hR
  obtain ⟨hlen, hr, f, g, m, hw, hg, hm, hfa⟩ := hR
  refine ar_go M_R_store 3 _ 5 _ [some (.ref r), some (.int (nI W)), some (.int gr), some (.int (bi bb)), none, none] _ [.int (nI 1024), .int (nI W), .ref r] rfl ?_
  refine ar_idiv M_R_store rfl (by decide) ?_
  refine ar_top (w := .int (nI (W / 1024))) (congrArg Value.int (pk_div (by omega) (by decide) (by decide))) ?_
  refine ar_CV M_R_store rfl rfl (Or.inl rfl) rfl rfl (Nat.le_of_ble_eq_true rfl) hr M_R_placeOf (Nat.le_of_ble_eq_true rfl) (c_R_pos X d _ hR0 hrs hS hW (by omega)) (fun r1 h1 hq => ?_)
  obtain ⟨rfl, rfl⟩ := hq
  refine ⟨rfl, ?_⟩
  show ar Pg _ _ _ 9 [some (.ref r), some (.int (nI W)), some (.int gr), some (.int (bi bb)), none, none] [.int (nI (pos l (W / 1024)))] _ _
  have hpl := pos_pl l (W / 1024) hS
  obtain ⟨p, hpe⟩ : ∃ p, p = pos l (W / 1024) := ⟨_, rfl⟩
  rw [← hpe] at hpl ⊢
  have hpl1 := hpl.1
  refine ar_go M_R_store 5 _ 18 _ [some (.ref r), some (.int (nI W)), some (.int gr), some (.int (bi bb)), some (.int (nI p)), none] _ [.int (nI 1024), .int (nI W), .int (nI p), .ref r] rfl ?_
  refine ar_idiv M_R_store rfl (by decide) ?_
  refine ar_top (w := .int (nI (W / 1024))) (congrArg Value.int (pk_div (by omega) (by decide) (by decide))) ?_
  refine ar_CV M_R_store rfl rfl (Or.inl rfl) rfl rfl (Nat.le_of_ble_eq_true rfl) hr M_R_holdsAt (Nat.le_of_ble_eq_true rfl) (c_R_holdsAt X d _ hR0 hrs hW (by omega) (by omega)) (fun r1 h1 hq => ?_)
  obtain ⟨rfl, rfl⟩ := hq
  refine ⟨rfl, ?_⟩
  show ar Pg _ _ _ 22 [some (.ref r), some (.int (nI W)), some (.int gr), some (.int (bi bb)), some (.int (nI p)), none] [.int (bi (hasAt l p (W / 1024)))] _ _
  refine ar_if M_R_store rfl rfl (fun hc => ?_) (fun hc => ?_)
  · have hc := bi_ne_t hc
    have hh := hasAt_iff.mp hc
    refine ar_mono (c_R_st_end X (d + 1) _ hrs hr ⟨hw, hg, hm⟩ (by omega)) (fun rr h2 ⟨q1, q2, q3⟩ => ⟨q1, q2.mono (by simp), ?_⟩)
    unfold stR
    rw [← hpe, if_pos hc]
    exact isR_iff.mpr ⟨by rw [List.length_set]; exact hlen, by rw [List.length_set]; exact q2.at hr (by simp), _, _, _, q3, isC_set hfa hh.1 (W, gr, bb)⟩
  · have hc := bi_ne_f hc
    refine ar_go M_R_store 1 _ 26 _ [some (.ref r), some (.int (nI W)), some (.int gr), some (.int (bi bb)), some (.int (nI p)), none] _ [.ref r] rfl ?_
    refine ar_get M_R_store rfl rfl hr rfl ?_
    refine ar_go M_R_store 1 _ 31 _ [some (.ref r), some (.int (nI W)), some (.int gr), some (.int (bi bb)), some (.int (nI p)), none] _ [.int (nI 64), .int (nI l.length)] rfl ?_
    refine ar_icmp M_R_store rfl rfl (fun hc2 => ?_) (fun hc2 => ?_)
    · have hc2 := c2_lt_t (a := l.length) (b := 64) (by omega) (by omega) hc2
      refine ar_go M_R_store 1 _ 36 _ [some (.ref r), some (.int (nI W)), some (.int gr), some (.int (bi bb)), some (.int (nI p)), none] _ [.ref r] rfl ?_
      refine ar_get M_R_store rfl rfl hr rfl ?_
      refine ar_go M_R_store 1 _ 41 _ [some (.ref r), some (.int (nI W)), some (.int gr), some (.int (bi bb)), some (.int (nI p)), some (.int (nI l.length))] _ [] rfl ?_
      refine c_R_st_loop X d _ (md := dd l) hrs (by omega) (fun i hi => (hfa i hi).2.2) ?_ (l.length - p) l.length _ f g m rfl ⟨hpl.1, Nat.le_refl _⟩ ⟨fun _ _ => rfl, fun j h1 h2 => by omega⟩ ⟨fun _ _ => rfl, fun j h1 h2 => by omega⟩ ⟨fun _ _ => rfl, fun j h1 h2 => by omega⟩ hr ⟨hw, hg, hm⟩ (fr.rf _ _)
      clear hr hw hg hm
      intro h2 f2 g2 m2 s1 s2 s3 hO hA hF
      have hr : h2[r]? = some (.inr (1, [.ref (r + 1), .ref (r + 2), .ref (r + 3), .int (nI l.length)])) := hO
      obtain ⟨hw, hg, hm⟩ := hA
      refine ar_go M_R_store 2 _ 67 _ [some (.ref r), some (.int (nI W)), some (.int gr), some (.int (bi bb)), some (.int (nI p)), some (.int (nI p))] _ [.ref r, .ref r] rfl ?_
      refine ar_get M_R_store rfl rfl hr rfl ?_
      refine ar_go M_R_store 2 _ 72 _ [some (.ref r), some (.int (nI W)), some (.int gr), some (.int (bi bb)), some (.int (nI p)), some (.int (nI p))] _ [.int (nI l.length + nI 1), .ref r] rfl ?_
      refine ar_top (w := .int (nI (l.length + 1))) (congrArg Value.int (nI_add l.length 1)) ?_
      refine ar_put M_R_store rfl rfl hr (Nat.le_of_ble_eq_true rfl) rfl (Nat.le_of_ble_eq_true rfl) (fun h3 hf he => ?_)
      have hw := hf.at hw (by simp only [List.mem_cons, List.not_mem_nil, or_false]; omega)
      have hg := hf.at hg (by simp only [List.mem_cons, List.not_mem_nil, or_false]; omega)
      have hm := hf.at hm (by simp only [List.mem_cons, List.not_mem_nil, or_false]; omega)
      have hr : h3[r]? = some (.inr (1, [.ref (r + 1), .ref (r + 2), .ref (r + 3), .int (nI (l.length + 1))])) := he
      have k1 := hf
      refine ar_mono (c_R_st_end X (d + 1) _ hrs hr ⟨hw, hg, hm⟩ (by omega)) (fun rr h4 ⟨q1, q2, q3⟩ => ⟨q1, hF.tr (k1.tr q2 (l := [r, r + 1, r + 2, r + 3]) (by simp) (by simp)) (by simp) (by simp), ?_⟩)
      unfold stR
      rw [← hpe, if_neg (by rw [hc]; decide), if_neg (by omega)]
      exact isR_iff.mpr ⟨by rw [insP_len hpl.1]; omega, by rw [insP_len hpl.1]; exact q2.at hr (by simp), _, _, _, q3, isC_ins hfa hpl.1 s1 s2 s3 (W, gr, bb)⟩
    · have hc2 := c2_lt_f (a := l.length) (b := 64) (by omega) (by omega) hc2
      refine ar_R M_R_store rfl rfl rfl rfl ⟨rfl, fr.rf _ _, ?_⟩
      unfold stR
      rw [← hpe, if_neg (by rw [hc]; decide), if_pos (by omega)]
      exact hR0
/-- the sample: the product of x - word, modulo the prime -/
def smp (l : Bk) (x : Nat) : Nat → Nat
  | 0 => 1
  | i + 1 => smp l x i * (x - wd l i) % 2147483647
theorem smp_lt (l : Bk) (x : Nat) : ∀ i, smp l x i < 2147483647
  | 0 => by show 1 < 2147483647; decide
  | i + 1 => Nat.mod_lt _ (by decide)
theorem c_R_smp_loop (X : am_X) (d : Nat) (h : am_H) {r x : Nat} {l : Bk} (hR : isR h r l) (hrs : r < 1000) (hW : bkW l) (hx : 1073741824 ≤ x) (hx2 : x < 2147483647) : ∀ (k i : Nat), l.length - i < k → i ≤ l.length → ar Pg X (d + 1) n_R_sampleAt 5 [some (.ref r), some (.long (lN x)), none, some (.long (lN (smp l x i))), none, some (.int (nI i))] [] h (fun rr h' => rr = some (.long (lN (smp l x l.length))) ∧ h' = h) := by
  have hR0 := hR
  obtain ⟨hlen, hr, f, g, m, hw, hg, hm, hfa⟩ := hR
  intro k
  induction k with
  | zero => intro i hk; omega
  | succ k ih =>
    intro i hk hil
    refine ar_go M_R_sampleAt 2 _ 8 _ [some (.ref r), some (.long (lN x)), none, some (.long (lN (smp l x i))), none, some (.int (nI i))] _ [.ref r, .int (nI i)] rfl ?_
    refine ar_get M_R_sampleAt rfl rfl hr rfl ?_
    refine ar_icmp M_R_sampleAt rfl rfl (fun hc => ?_) (fun hc => ?_)
    · have hc := c2_ge_t (a := i) (b := l.length) (by omega) (by omega) hc
      have hi2 : i = l.length := by omega
      refine ar_go M_R_sampleAt 1 _ 36 _ [some (.ref r), some (.long (lN x)), none, some (.long (lN (smp l x i))), none, some (.int (nI i))] _ [.long (lN (smp l x i))] rfl ?_
      exact ar_R M_R_sampleAt rfl rfl rfl rfl (⟨by rw [hi2], rfl⟩)
    · have hc := c2_ge_f (a := i) (b := l.length) (by omega) (by omega) hc
      have hwi := hW i (by omega)
      refine ar_go M_R_sampleAt 3 _ 17 _ [some (.ref r), some (.long (lN x)), none, some (.long (lN (smp l x i))), none, some (.int (nI i))] _ [.ref r, .long (lN x), .long (lN (smp l x i))] rfl ?_
      refine ar_get M_R_sampleAt rfl rfl hr rfl ?_
      refine ar_go M_R_sampleAt 1 _ 22 _ [some (.ref r), some (.long (lN x)), none, some (.long (lN (smp l x i))), none, some (.int (nI i))] _ [.int (nI i), .ref (r + 1), .long (lN x), .long (lN (smp l x i))] rfl ?_
      refine ar_iald M_R_sampleAt rfl (by unfold am_x0; omega) hw (vp_in_nI (by omega) (by decide)) ?_
      rw [nI_clamp (n := i) (by omega)]
      refine ar_top (w := .int (nI (wd l i))) (congrArg Value.int ((hfa i (by omega)).1)) ?_
      refine ar_go M_R_sampleAt 1 _ 24 _ [some (.ref r), some (.long (lN x)), none, some (.long (lN (smp l x i))), none, some (.int (nI i))] _ [.long ((nI (wd l i)).toInt64), .long (lN x), .long (lN (smp l x i))] rfl ?_
      refine ar_top (w := .long (lN (wd l i))) (congrArg Value.long (nI_l (by omega))) ?_
      refine ar_go M_R_sampleAt 1 _ 25 _ [some (.ref r), some (.long (lN x)), none, some (.long (lN (smp l x i))), none, some (.int (nI i))] _ [.long (lN x - lN (wd l i)), .long (lN (smp l x i))] rfl ?_
      refine ar_top (w := .long (lN (x - (wd l i)))) (congrArg Value.long (lN_sub (by omega))) ?_
      refine ar_CS M_R_sampleAt rfl rfl (Nat.le_of_ble_eq_true rfl) rfl rfl (Nat.le_of_ble_eq_true rfl) M_F_times (Nat.le_of_ble_eq_true rfl) (c_F_times X d _ (Nat.lt_trans (smp_lt l x i) (by decide)) (by omega)) (fun r1 h1 hq => ?_)
      obtain ⟨rfl, rfl⟩ := hq
      refine ⟨rfl, ?_⟩
      show ar Pg _ _ _ 28 [some (.ref r), some (.long (lN x)), none, some (.long (lN (smp l x i))), none, some (.int (nI i))] [.long (lN (smp l x (i + 1)))] _ _
      refine ar_go M_R_sampleAt 1 _ 29 _ [some (.ref r), some (.long (lN x)), none, some (.long (lN (smp l x (i + 1)))), none, some (.int (nI i))] _ [] rfl ?_
      refine ar_go M_R_sampleAt 1 _ 32 _ [some (.ref r), some (.long (lN x)), none, some (.long (lN (smp l x (i + 1)))), none, some (.int (nI i + Int32.ofInt 1))] _ [] rfl ?_
      rw [show nI i + Int32.ofInt 1 = nI (i + 1) from nI_add i 1]
      refine ar_go M_R_sampleAt 1 _ 5 _ [some (.ref r), some (.long (lN x)), none, some (.long (lN (smp l x (i + 1)))), none, some (.int (nI (i + 1)))] _ [] rfl ?_
      exact ih (i + 1) (by omega) (by omega)
theorem c_R_sampleAt (X : am_X) (d : Nat) (h : am_H) {r x : Nat} {l : Bk} (hR : isR h r l) (hrs : r < 1000) (hW : bkW l) (hx : 1073741824 ≤ x) (hx2 : x < 2147483647) : ar Pg X (d + 1) n_R_sampleAt 0 [some (.ref r), some (.long (lN x)), none, none, none, none] [] h (fun rr h' => rr = some (.long (lN (smp l x l.length))) ∧ h' = h) := by
  have hR0 := hR
  obtain ⟨hlen, hr, f, g, m, hw, hg, hm, hfa⟩ := hR
  refine ar_go M_R_sampleAt 4 _ 5 _ [some (.ref r), some (.long (lN x)), none, some (.long (lN 1)), none, some (.int (nI 0))] _ [] rfl ?_
  exact c_R_smp_loop X d h hR0 hrs hW hx hx2 (l.length + 1) 0 (by omega) (by omega)
