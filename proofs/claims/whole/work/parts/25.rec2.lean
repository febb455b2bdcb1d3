/-! Records: copyRecord, store -/
theorem nar_bi (b : Bool) : vp_nar .boolean (bi b) = bi b := by cases b <;> decide
/-- the three arrays of a Records -/
def isA (h : am_H) (r : Nat) (f g m : Nat → Int32) : Prop := h[r + 1]? = some (.inl (0, 64, .inl f)) ∧ h[r + 2]? = some (.inl (0, 64, .inl g)) ∧ h[r + 3]? = some (.inl (2, 64, .inl m))
def isO (h : am_H) (r : Nat) (c : Int32) : Prop := h[r]? = some (.inr (1, [.ref (r + 1), .ref (r + 2), .ref (r + 3), .int c]))
theorem isA.fr {h h1 : am_H} {r : Nat} {f g m : Nat → Int32} {l : List Nat} (hA : isA h r f g m) (hf : fr l h h1) (h1' : r + 1 ∉ l) (h2 : r + 2 ∉ l) (h3 : r + 3 ∉ l) : isA h1 r f g m := ⟨hf.at hA.1 h1', hf.at hA.2.1 h2, hf.at hA.2.2 h3⟩
theorem isO.fr {h h1 : am_H} {r : Nat} {c : Int32} {l : List Nat} (hA : isO h r c) (hf : fr l h h1) (h1' : r ∉ l) : isO h1 r c := hf.at hA h1'
/-- arrays that hold a bank -/
def isC (l : Bk) (f g m : Nat → Int32) : Prop := ∀ i, i < l.length → f i = nI (wd l i) ∧ g i = gd l i ∧ m i = bi (dd l i)
theorem isR_iff {h : am_H} {r : Nat} {l : Bk} : isR h r l ↔ l.length ≤ 64 ∧ isO h r (nI l.length) ∧ ∃ f g m, isA h r f g m ∧ isC l f g m := by
  constructor
  · rintro ⟨h1, h2, f, g, m, h3, h4, h5, h6⟩
    exact ⟨h1, h2, f, g, m, ⟨h3, h4, h5⟩, h6⟩
  · rintro ⟨h1, h2, f, g, m, ⟨h3, h4, h5⟩, h6⟩
    exact ⟨h1, h2, f, g, m, h3, h4, h5, h6⟩
theorem isR.fr {h h1 : am_H} {r : Nat} {l : Bk} {s : List Nat} (hR : isR h r l) (hf : fr s h h1) (h0 : r ∉ s) (h1' : r + 1 ∉ s) (h2 : r + 2 ∉ s) (h3 : r + 3 ∉ s) : isR h1 r l := by
  rw [isR_iff] at hR ⊢
  obtain ⟨a, b, f, g, m, c, d⟩ := hR
  exact ⟨a, b.fr hf h0, f, g, m, c.fr hf h1' h2 h3, d⟩
theorem c_R_copyRecord (X : am_X) (d : Nat) (h : am_H) {r s a b : Nat} {c c2 : Int32} {f g m f2 g2 m2 : Nat → Int32} (hrs : r < 1000) (hss : s < 1000) (hap : s = r ∨ s + 4 ≤ r ∨ r + 4 ≤ s) (hO : isO h r c) (hA : isA h r f g m) (hO2 : isO h s c2) (hA2 : isA h s f2 g2 m2) (ha : a < 64) (hb : b < 64) (hnar : vp_nar .boolean (m2 a) = m2 a) : ar Pg X d n_R_copyRecord 0 [some (.ref r), some (.ref s), some (.int (nI a)), some (.int (nI b))] [] h (fun rr h' => rr = none ∧ fr [r + 1, r + 2, r + 3] h h' ∧ isA h' r (upd f b (f2 a)) (upd g b (g2 a)) (upd m b (m2 a))) := by
  have hr : h[r]? = some (.inr (1, [.ref (r + 1), .ref (r + 2), .ref (r + 3), .int c])) := hO
  have hs : h[s]? = some (.inr (1, [.ref (s + 1), .ref (s + 2), .ref (s + 3), .int c2])) := hO2
  obtain ⟨hw, hg, hm⟩ := hA
  obtain ⟨hw2, hg2, hm2⟩ := hA2
  refine ar_go M_R_copyRecord 1 _ 1 _ [some (.ref r), some (.ref s), some (.int (nI a)), some (.int (nI b))] _ [.ref r] rfl ?_
  refine ar_get M_R_copyRecord rfl rfl hr rfl ?_
  refine ar_go M_R_copyRecord 2 _ 6 _ [some (.ref r), some (.ref s), some (.int (nI a)), some (.int (nI b))] _ [.ref s, .int (nI b), .ref (r + 1)] rfl ?_
  refine ar_get M_R_copyRecord rfl rfl hs rfl ?_
  refine ar_go M_R_copyRecord 1 _ 10 _ [some (.ref r), some (.ref s), some (.int (nI a)), some (.int (nI b))] _ [.int (nI a), .ref (s + 1), .int (nI b), .ref (r + 1)] rfl ?_
  refine ar_iald M_R_copyRecord rfl (by unfold am_x0; omega) hw2 (vp_in_nI (by omega) (by decide)) ?_
  rw [nI_clamp (n := a) (by omega)]
  refine ar_iast M_R_copyRecord rfl hw (vp_in_nI (by omega) (by decide)) (fun h2 hf he => ?_)
  rw [nI_clamp (n := b) (by omega)] at he
  have hr := hf.at hr (by simp only [List.mem_cons, List.not_mem_nil, or_false]; omega)
  have hg := hf.at hg (by simp only [List.mem_cons, List.not_mem_nil, or_false]; omega)
  have hm := hf.at hm (by simp only [List.mem_cons, List.not_mem_nil, or_false]; omega)
  have hs := hf.at hs (by simp only [List.mem_cons, List.not_mem_nil, or_false]; omega)
  have hg2 := hf.at hg2 (by simp only [List.mem_cons, List.not_mem_nil, or_false]; omega)
  have hm2 := hf.at hm2 (by simp only [List.mem_cons, List.not_mem_nil, or_false]; omega)
  have hw : h2[(r + 1)]? = some (.inl (0, 64, .inl (upd f b (f2 a)))) := he
  have k1 := hf
  refine ar_go M_R_copyRecord 1 _ 13 _ [some (.ref r), some (.ref s), some (.int (nI a)), some (.int (nI b))] _ [.ref r] rfl ?_
  refine ar_get M_R_copyRecord rfl rfl hr rfl ?_
  refine ar_go M_R_copyRecord 2 _ 18 _ [some (.ref r), some (.ref s), some (.int (nI a)), some (.int (nI b))] _ [.ref s, .int (nI b), .ref (r + 2)] rfl ?_
  refine ar_get M_R_copyRecord rfl rfl hs rfl ?_
  refine ar_go M_R_copyRecord 1 _ 22 _ [some (.ref r), some (.ref s), some (.int (nI a)), some (.int (nI b))] _ [.int (nI a), .ref (s + 2), .int (nI b), .ref (r + 2)] rfl ?_
  refine ar_iald M_R_copyRecord rfl (by unfold am_x0; omega) hg2 (vp_in_nI (by omega) (by decide)) ?_
  rw [nI_clamp (n := a) (by omega)]
  refine ar_iast M_R_copyRecord rfl hg (vp_in_nI (by omega) (by decide)) (fun h3 hf he => ?_)
  rw [nI_clamp (n := b) (by omega)] at he
  have hr := hf.at hr (by simp only [List.mem_cons, List.not_mem_nil, or_false]; omega)
  have hw := hf.at hw (by simp only [List.mem_cons, List.not_mem_nil, or_false]; omega)
  have hm := hf.at hm (by simp only [List.mem_cons, List.not_mem_nil, or_false]; omega)
  have hs := hf.at hs (by simp only [List.mem_cons, List.not_mem_nil, or_false]; omega)
  have hm2 := hf.at hm2 (by simp only [List.mem_cons, List.not_mem_nil, or_false]; omega)
  have hg : h3[(r + 2)]? = some (.inl (0, 64, .inl (upd g b (g2 a)))) := he
  have k2 := hf
  refine ar_go M_R_copyRecord 1 _ 25 _ [some (.ref r), some (.ref s), some (.int (nI a)), some (.int (nI b))] _ [.ref r] rfl ?_
  refine ar_get M_R_copyRecord rfl rfl hr rfl ?_
  refine ar_go M_R_copyRecord 2 _ 30 _ [some (.ref r), some (.ref s), some (.int (nI a)), some (.int (nI b))] _ [.ref s, .int (nI b), .ref (r + 3)] rfl ?_
  refine ar_get M_R_copyRecord rfl rfl hs rfl ?_
  refine ar_go M_R_copyRecord 1 _ 34 _ [some (.ref r), some (.ref s), some (.int (nI a)), some (.int (nI b))] _ [.int (nI a), .ref (s + 3), .int (nI b), .ref (r + 3)] rfl ?_
  refine ar_zald M_R_copyRecord rfl hm2 (vp_in_nI (by omega) (by decide)) ?_
  rw [nI_clamp (n := a) (by omega)]
  refine ar_zast M_R_copyRecord rfl hm (vp_in_nI (by omega) (by decide)) (fun h4 hf he => ?_)
  rw [nI_clamp (n := b) (by omega)] at he
  have hr := hf.at hr (by simp only [List.mem_cons, List.not_mem_nil, or_false]; omega)
  have hw := hf.at hw (by simp only [List.mem_cons, List.not_mem_nil, or_false]; omega)
  have hg := hf.at hg (by simp only [List.mem_cons, List.not_mem_nil, or_false]; omega)
  have hs := hf.at hs (by simp only [List.mem_cons, List.not_mem_nil, or_false]; omega)
  have hm : h4[(r + 3)]? = some (.inl (2, 64, .inl (upd m b (vp_nar .boolean (m2 a))))) := he
  have k3 := hf
  rw [hnar] at hm
  exact ar_R M_R_copyRecord rfl rfl rfl rfl (⟨rfl, k1.tr (k2.tr k3 (l := [r + 2, r + 3]) (by simp) (by simp)) (by simp) (by simp), hw, hg, hm⟩)
theorem c_R_st_end (X : am_X) (d : Nat) (h : am_H) {r W p : Nat} {c gr : Int32} {bb : Bool} {x5 : Option Value} {f g m : Nat → Int32} (hrs : r < 1000) (hO : isO h r c) (hA : isA h r f g m) (hp : p < 64) : ar Pg X d n_R_store 75 [some (.ref r), some (.int (nI W)), some (.int gr), some (.int (bi bb)), some (.int (nI p)), x5] [] h (fun rr h' => rr = none ∧ fr [r + 1, r + 2, r + 3] h h' ∧ isA h' r (upd f p (nI W)) (upd g p gr) (upd m p (bi bb))) := by
  have hr : h[r]? = some (.inr (1, [.ref (r + 1), .ref (r + 2), .ref (r + 3), .int c])) := hO
  obtain ⟨hw, hg, hm⟩ := hA
  refine ar_go M_R_store 1 _ 76 _ [some (.ref r), some (.int (nI W)), some (.int gr), some (.int (bi bb)), some (.int (nI p)), x5] _ [.ref r] rfl ?_
  refine ar_get M_R_store rfl rfl hr rfl ?_
  refine ar_go M_R_store 2 _ 82 _ [some (.ref r), some (.int (nI W)), some (.int gr), some (.int (bi bb)), some (.int (nI p)), x5] _ [.int (nI W), .int (nI p), .ref (r + 1)] rfl ?_
  refine ar_iast M_R_store rfl hw (vp_in_nI (by omega) (by decide)) (fun h2 hf he => ?_)
  rw [nI_clamp (n := p) (by omega)] at he
  have hr := hf.at hr (by simp only [List.mem_cons, List.not_mem_nil, or_false]; omega)
  have hg := hf.at hg (by simp only [List.mem_cons, List.not_mem_nil, or_false]; omega)
  have hm := hf.at hm (by simp only [List.mem_cons, List.not_mem_nil, or_false]; omega)
  have hw : h2[(r + 1)]? = some (.inl (0, 64, .inl (upd f p (nI W)))) := he
  have k1 := hf
  refine ar_go M_R_store 1 _ 84 _ [some (.ref r), some (.int (nI W)), some (.int gr), some (.int (bi bb)), some (.int (nI p)), x5] _ [.ref r] rfl ?_
  refine ar_get M_R_store rfl rfl hr rfl ?_
  refine ar_go M_R_store 2 _ 90 _ [some (.ref r), some (.int (nI W)), some (.int gr), some (.int (bi bb)), some (.int (nI p)), x5] _ [.int gr, .int (nI p), .ref (r + 2)] rfl ?_
  refine ar_iast M_R_store rfl hg (vp_in_nI (by omega) (by decide)) (fun h3 hf he => ?_)
  rw [nI_clamp (n := p) (by omega)] at he
  have hr := hf.at hr (by simp only [List.mem_cons, List.not_mem_nil, or_false]; omega)
  have hw := hf.at hw (by simp only [List.mem_cons, List.not_mem_nil, or_false]; omega)
  have hm := hf.at hm (by simp only [List.mem_cons, List.not_mem_nil, or_false]; omega)
  have hg : h3[(r + 2)]? = some (.inl (0, 64, .inl (upd g p gr))) := he
  have k2 := hf
  refine ar_go M_R_store 1 _ 92 _ [some (.ref r), some (.int (nI W)), some (.int gr), some (.int (bi bb)), some (.int (nI p)), x5] _ [.ref r] rfl ?_
  refine ar_get M_R_store rfl rfl hr rfl ?_
  refine ar_go M_R_store 2 _ 98 _ [some (.ref r), some (.int (nI W)), some (.int gr), some (.int (bi bb)), some (.int (nI p)), x5] _ [.int (bi bb), .int (nI p), .ref (r + 3)] rfl ?_
  refine ar_zast M_R_store rfl hm (vp_in_nI (by omega) (by decide)) (fun h4 hf he => ?_)
  rw [nI_clamp (n := p) (by omega)] at he
  have hr := hf.at hr (by simp only [List.mem_cons, List.not_mem_nil, or_false]; omega)
  have hw := hf.at hw (by simp only [List.mem_cons, List.not_mem_nil, or_false]; omega)
  have hg := hf.at hg (by simp only [List.mem_cons, List.not_mem_nil, or_false]; omega)
  have hm : h4[(r + 3)]? = some (.inl (2, 64, .inl (upd m p (vp_nar .boolean (bi bb))))) := he
  have k3 := hf
  rw [nar_bi] at hm
  exact ar_R M_R_store rfl rfl rfl rfl (⟨rfl, k1.tr (k2.tr k3 (l := [r + 2, r + 3]) (by simp) (by simp)) (by simp) (by simp), hw, hg, hm⟩)
/-- the places behind i have moved up by one -/
def shf (f f0 : Nat → Int32) (i n : Nat) : Prop := (∀ j, j ≤ i → f j = f0 j) ∧ ∀ j, i < j → j ≤ n → f j = f0 (j - 1)
theorem shf.step {f f0 : Nat → Int32} {i n : Nat} (h : shf f f0 (i + 1) n) (_hi : i + 1 ≤ n) : shf (upd f (i + 1) (f i)) f0 i n := by
  refine ⟨fun j hj => ?_, fun j h1 h2 => ?_⟩
  · rw [pk_un (by omega)]
    exact h.1 j (by omega)
  · by_cases e : j = i + 1
    · subst e
      rw [pk_us]
      exact h.1 i (by omega)
    · rw [pk_un e]
      exact h.2 j (by omega) h2
theorem c_R_st_loop (X : am_X) (d : Nat) (h : am_H) {r W p n : Nat} {c gr : Int32} {bb : Bool} {f0 g0 m0 : Nat → Int32} {md : Nat → Bool} {Q : Option Value → am_H → Prop} (hrs : r < 1000) (hn : n < 64) (hm0 : ∀ i, i < n → m0 i = bi (md i))
    (K : ∀ (h1 : am_H) (f g m : Nat → Int32), shf f f0 p n → shf g g0 p n → shf m m0 p n → isO h1 r c → isA h1 r f g m → fr [r + 1, r + 2, r + 3] h h1 → ar Pg X (d + 1) n_R_store 65 [some (.ref r), some (.int (nI W)), some (.int gr), some (.int (bi bb)), some (.int (nI p)), some (.int (nI p))] [] h1 Q) :
    ∀ (k i : Nat) (h1 : am_H) (f g m : Nat → Int32), i - p = k → p ≤ i ∧ i ≤ n → shf f f0 i n → shf g g0 i n → shf m m0 i n → isO h1 r c → isA h1 r f g m → fr [r + 1, r + 2, r + 3] h h1 → ar Pg X (d + 1) n_R_store 41 [some (.ref r), some (.int (nI W)), some (.int gr), some (.int (bi bb)), some (.int (nI p)), some (.int (nI i))] [] h1 Q := by
  intro k
  induction k with
  | zero =>
    intro i h1 f g m hk hpi hS1 hS2 hS3 hO hA hF
    have hi : i = p := by omega
    subst hi
    refine ar_go M_R_store 2 _ 45 _ [some (.ref r), some (.int (nI W)), some (.int gr), some (.int (bi bb)), some (.int (nI i)), some (.int (nI i))] _ [.int (nI i), .int (nI i)] rfl ?_
    refine ar_icmp M_R_store rfl rfl (fun _ => K _ _ _ _ hS1 hS2 hS3 hO hA hF) (fun hc => ?_)
    have hc := c2_le_f (a := i) (b := i) (by omega) (by omega) hc
    omega
  | succ k ih =>
    intro i h1 f g m hk hpi hS1 hS2 hS3 hO hA hF
    have hr : h1[r]? = some (.inr (1, [.ref (r + 1), .ref (r + 2), .ref (r + 3), .int c])) := hO
    refine ar_go M_R_store 2 _ 45 _ [some (.ref r), some (.int (nI W)), some (.int gr), some (.int (bi bb)), some (.int (nI p)), some (.int (nI i))] _ [.int (nI p), .int (nI i)] rfl ?_
    refine ar_icmp M_R_store rfl rfl (fun hc => ?_) (fun hc => ?_)
    · have hc := c2_le_t (a := i) (b := p) (by omega) (by omega) hc
      have hi : i = p := by omega
      subst hi
      exact K _ _ _ _ hS1 hS2 hS3 hO hA hF
    · have hc := c2_le_f (a := i) (b := p) (by omega) (by omega) hc
      obtain ⟨i, rfl⟩ : ∃ q, i = q + 1 := ⟨i - 1, by omega⟩
      refine ar_go M_R_store 5 _ 54 _ [some (.ref r), some (.int (nI W)), some (.int gr), some (.int (bi bb)), some (.int (nI p)), some (.int (nI (i + 1)))] _ [.int (nI (i + 1) - nI 1), .ref r, .ref r] rfl ?_
      refine ar_top (w := .int (nI i)) (congrArg Value.int (nI_pred i)) ?_
      refine ar_go M_R_store 1 _ 56 _ [some (.ref r), some (.int (nI W)), some (.int gr), some (.int (bi bb)), some (.int (nI p)), some (.int (nI (i + 1)))] _ [.int (nI (i + 1)), .int (nI i), .ref r, .ref r] rfl ?_
      refine ar_CV M_R_store rfl rfl (Or.inl rfl) rfl rfl (Nat.le_of_ble_eq_true rfl) hr M_R_copyRecord (Nat.le_of_ble_eq_true rfl) (c_R_copyRecord X d h1 hrs hrs (Or.inl rfl) hO hA hO hA (by omega) (by omega) (by rw [hS3.1 i (by omega), hm0 i (by omega)]; exact nar_bi _)) (fun r1 h2 hq => ?_)
      obtain ⟨rfl, hf, hA2⟩ := hq
      refine ⟨hf.1, ?_⟩
      show ar Pg _ _ _ 59 [some (.ref r), some (.int (nI W)), some (.int gr), some (.int (bi bb)), some (.int (nI p)), some (.int (nI (i + 1)))] [] _ _
      refine ar_go M_R_store 1 _ 62 _ [some (.ref r), some (.int (nI W)), some (.int gr), some (.int (bi bb)), some (.int (nI p)), some (.int (nI (i + 1) + Int32.ofInt (-1)))] _ [] rfl ?_
      rw [show nI (i + 1) + Int32.ofInt (-1) = nI i from pk_m1 i]
      refine ar_go M_R_store 1 _ 41 _ [some (.ref r), some (.int (nI W)), some (.int gr), some (.int (bi bb)), some (.int (nI p)), some (.int (nI i))] _ [] rfl ?_
      exact ih i h2 _ _ _ (by omega) (by omega) (hS1.step (by omega)) (hS2.step (by omega)) (hS3.step (by omega)) (hO.fr hf (by simp)) hA2 (hF.tr hf (by simp) (by simp))
