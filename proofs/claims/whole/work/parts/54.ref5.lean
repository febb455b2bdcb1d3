/-! The reference: what is taken over waits in a list of (taker, record) -/
abbrev Tk : Type := List (Nat × Nat × Int32 × Bool)
def tkr (T : Tk) (i : Nat) : Nat := (T.getD i (0, 0, 0, false)).1
def ten (T : Tk) (i : Nat) : Nat × Int32 × Bool := (T.getD i (0, 0, 0, false)).2
def isTa (h : am_H) (ta tb tc td te : Nat → Int32) : Prop := h[71]? = some (.inl (0, 128, .inl ta)) ∧ h[72]? = some (.inl (0, 128, .inl tb)) ∧ h[73]? = some (.inl (0, 128, .inl tc)) ∧ h[74]? = some (.inl (0, 128, .inl td)) ∧ h[75]? = some (.inl (2, 128, .inl te))
def isTc (T : Tk) (ta tb tc td te : Nat → Int32) : Prop := ∀ i, i < T.length → ta i = nI (tkr T i) ∧ tb i = nI ((ten T i).1 / 1024) ∧ tc i = nI ((ten T i).1 % 1024) ∧ td i = (ten T i).2.1 ∧ te i = bi (ten T i).2.2
def isT (h : am_H) (T : Tk) : Prop := T.length ≤ 128 ∧ ∃ ta tb tc td te, isTa h ta tb tc td te ∧ isTc T ta tb tc td te
theorem isT.mv {h h1 : am_H} {T : Tk} {l : List Nat} (H : isT h T) (hf : fr l h h1) (hl : ∀ k, 71 ≤ k → k < 76 → k ∉ l) : isT h1 T := by
  obtain ⟨z, ta, tb, tc, td, te, ⟨a, b, c, d, e⟩, g⟩ := H
  exact ⟨z, ta, tb, tc, td, te, ⟨hf.at a (hl _ (by omega) (by omega)), hf.at b (hl _ (by omega) (by omega)), hf.at c (hl _ (by omega) (by omega)), hf.at d (hl _ (by omega) (by omega)), hf.at e (hl _ (by omega) (by omega))⟩, g⟩
theorem tk_app {T : Tk} {e : Nat × Nat × Int32 × Bool} {i : Nat} (h : i < T.length) : tkr (T ++ [e]) i = tkr T i ∧ ten (T ++ [e]) i = ten T i := by
  have : (T ++ [e]).getD i (0, 0, 0, false) = T.getD i (0, 0, 0, false) := by
    rw [List.getD_eq_getElem?_getD, List.getD_eq_getElem?_getD, List.getElem?_append_left h]
  unfold tkr ten
  rw [this]
  exact ⟨rfl, rfl⟩
theorem tk_last (T : Tk) (e : Nat × Nat × Int32 × Bool) : tkr (T ++ [e]) T.length = e.1 ∧ ten (T ++ [e]) T.length = e.2 := by
  have : (T ++ [e]).getD T.length (0, 0, 0, false) = e := by
    rw [List.getD_eq_getElem?_getD, List.getElem?_append_right (Nat.le_refl _)]
    simp
  unfold tkr ten
  rw [this]
  exact ⟨rfl, rfl⟩
theorem isTc_app {T : Tk} {ta tb tc td te : Nat → Int32} (H : isTc T ta tb tc td te) (e : Nat × Nat × Int32 × Bool) : isTc (T ++ [e]) (upd ta T.length (nI e.1)) (upd tb T.length (nI (e.2.1 / 1024))) (upd tc T.length (nI (e.2.1 % 1024))) (upd td T.length e.2.2.1) (upd te T.length (bi e.2.2.2)) := by
  intro i hi
  rw [List.length_append, List.length_singleton] at hi
  by_cases q : i = T.length
  · subst q
    obtain ⟨a, b⟩ := tk_last T e
    rw [a, b, pk_us, pk_us, pk_us, pk_us, pk_us]
    exact ⟨rfl, rfl, rfl, rfl, rfl⟩
  · obtain ⟨a, b⟩ := tk_app (T := T) (e := e) (i := i) (by omega)
    rw [a, b, pk_un q, pk_un q, pk_un q, pk_un q, pk_un q]
    exact H i (by omega)
theorem c_M_note (X : am_X) (d : Nat) (h : am_H) {B : Nat → Bk} {T : Tk} {s : Int64} {ud ld pr uD lD nd : Int32} (h56 : isM0 h s ud ld pr uD lD nd (nI T.length)) (hB : isMb h B) (hT : isT h T) {t b i : Nat} (hb : b < 4) (hi : i < (B b).length) (hT1 : T.length < 128) : ar Pg X d n_M_note 0 [some (.ref 56), some (.int (nI t)), some (.int (nI (64 * b + i)))] [] h (fun rr h' => rr = none ∧ fr [56, 71, 72, 73, 74, 75] h h' ∧ isM0 h' s ud ld pr uD lD nd (nI (T ++ [(t, en (B b) i)]).length) ∧ isT h' (T ++ [(t, en (B b) i)])) := by
  have hB0 := hB
  obtain ⟨sz, nu, ve, gr, dr, ⟨h57, h58, h59, h60, h61⟩, hc0⟩ := hB
  have h560 := h56
  unfold isM0 at h56
  obtain ⟨hTl, ta, tb, tc, td, te, ⟨h71, h72, h73, h74, h75⟩, hTc⟩ := hT
  obtain ⟨hsz, ⟨hlen, hS, hV⟩, hfa⟩ := hc0 b hb
  obtain ⟨e1, e2, e3, e4⟩ := hfa i hi
  refine ar_go M_M_note 1 _ 1 _ [some (.ref 56), some (.int (nI t)), some (.int (nI (64 * b + i)))] _ [.ref 56] rfl ?_
  refine ar_get M_M_note rfl rfl h56 rfl ?_
  refine ar_go M_M_note 1 _ 5 _ [some (.ref 56), some (.int (nI t)), some (.int (nI (64 * b + i)))] _ [.ref 56, .ref 71] rfl ?_
  refine ar_get M_M_note rfl rfl h56 rfl ?_
  refine ar_go M_M_note 1 _ 9 _ [some (.ref 56), some (.int (nI t)), some (.int (nI (64 * b + i)))] _ [.int (nI t), .int (nI (T.length)), .ref 71] rfl ?_
  refine ar_iast M_M_note rfl h71 (vp_in_nI (by omega) (by decide)) (fun h2 hf he => ?_)
  rw [nI_clamp (n := (T.length)) (by omega)] at he
  have h56 := hf.at h56 (by simp only [List.mem_cons, List.not_mem_nil, or_false]; omega)
  have h57 := hf.at h57 (by simp only [List.mem_cons, List.not_mem_nil, or_false]; omega)
  have h58 := hf.at h58 (by simp only [List.mem_cons, List.not_mem_nil, or_false]; omega)
  have h59 := hf.at h59 (by simp only [List.mem_cons, List.not_mem_nil, or_false]; omega)
  have h60 := hf.at h60 (by simp only [List.mem_cons, List.not_mem_nil, or_false]; omega)
  have h61 := hf.at h61 (by simp only [List.mem_cons, List.not_mem_nil, or_false]; omega)
  have h72 := hf.at h72 (by simp only [List.mem_cons, List.not_mem_nil, or_false]; omega)
  have h73 := hf.at h73 (by simp only [List.mem_cons, List.not_mem_nil, or_false]; omega)
  have h74 := hf.at h74 (by simp only [List.mem_cons, List.not_mem_nil, or_false]; omega)
  have h75 := hf.at h75 (by simp only [List.mem_cons, List.not_mem_nil, or_false]; omega)
  have h71 : h2[71]? = some (.inl (0, 128, .inl (upd ta (T.length) (nI t)))) := he
  have k1 := hf
  refine ar_go M_M_note 1 _ 11 _ [some (.ref 56), some (.int (nI t)), some (.int (nI (64 * b + i)))] _ [.ref 56] rfl ?_
  refine ar_get M_M_note rfl rfl h56 rfl ?_
  refine ar_go M_M_note 1 _ 15 _ [some (.ref 56), some (.int (nI t)), some (.int (nI (64 * b + i)))] _ [.ref 56, .ref 72] rfl ?_
  refine ar_get M_M_note rfl rfl h56 rfl ?_
  refine ar_go M_M_note 1 _ 19 _ [some (.ref 56), some (.int (nI t)), some (.int (nI (64 * b + i)))] _ [.ref 56, .int (nI (T.length)), .ref 72] rfl ?_
  refine ar_get M_M_note rfl rfl h56 rfl ?_
  refine ar_go M_M_note 1 _ 23 _ [some (.ref 56), some (.int (nI t)), some (.int (nI (64 * b + i)))] _ [.int (nI (64 * b + i)), .ref 58, .int (nI (T.length)), .ref 72] rfl ?_
  refine ar_iald M_M_note rfl (by unfold am_x0; omega) h58 (vp_in_nI (by omega) (by decide)) ?_
  rw [nI_clamp (n := (64 * b + i)) (by omega)]
  refine ar_top (w := .int (nI (wd (B b) i / 1024))) (congrArg Value.int e1) ?_
  refine ar_iast M_M_note rfl h72 (vp_in_nI (by omega) (by decide)) (fun h3 hf he => ?_)
  rw [nI_clamp (n := (T.length)) (by omega)] at he
  have h56 := hf.at h56 (by simp only [List.mem_cons, List.not_mem_nil, or_false]; omega)
  have h57 := hf.at h57 (by simp only [List.mem_cons, List.not_mem_nil, or_false]; omega)
  have h58 := hf.at h58 (by simp only [List.mem_cons, List.not_mem_nil, or_false]; omega)
  have h59 := hf.at h59 (by simp only [List.mem_cons, List.not_mem_nil, or_false]; omega)
  have h60 := hf.at h60 (by simp only [List.mem_cons, List.not_mem_nil, or_false]; omega)
  have h61 := hf.at h61 (by simp only [List.mem_cons, List.not_mem_nil, or_false]; omega)
  have h71 := hf.at h71 (by simp only [List.mem_cons, List.not_mem_nil, or_false]; omega)
  have h73 := hf.at h73 (by simp only [List.mem_cons, List.not_mem_nil, or_false]; omega)
  have h74 := hf.at h74 (by simp only [List.mem_cons, List.not_mem_nil, or_false]; omega)
  have h75 := hf.at h75 (by simp only [List.mem_cons, List.not_mem_nil, or_false]; omega)
  have h72 : h3[72]? = some (.inl (0, 128, .inl (upd tb (T.length) (nI (wd (B b) i / 1024))))) := he
  have k2 := hf
  refine ar_go M_M_note 1 _ 26 _ [some (.ref 56), some (.int (nI t)), some (.int (nI (64 * b + i)))] _ [.ref 56] rfl ?_
  refine ar_get M_M_note rfl rfl h56 rfl ?_
  refine ar_go M_M_note 1 _ 30 _ [some (.ref 56), some (.int (nI t)), some (.int (nI (64 * b + i)))] _ [.ref 56, .ref 73] rfl ?_
  refine ar_get M_M_note rfl rfl h56 rfl ?_
  refine ar_go M_M_note 1 _ 34 _ [some (.ref 56), some (.int (nI t)), some (.int (nI (64 * b + i)))] _ [.ref 56, .int (nI (T.length)), .ref 73] rfl ?_
  refine ar_get M_M_note rfl rfl h56 rfl ?_
  refine ar_go M_M_note 1 _ 38 _ [some (.ref 56), some (.int (nI t)), some (.int (nI (64 * b + i)))] _ [.int (nI (64 * b + i)), .ref 59, .int (nI (T.length)), .ref 73] rfl ?_
  refine ar_iald M_M_note rfl (by unfold am_x0; omega) h59 (vp_in_nI (by omega) (by decide)) ?_
  rw [nI_clamp (n := (64 * b + i)) (by omega)]
  refine ar_top (w := .int (nI (wd (B b) i % 1024))) (congrArg Value.int e2) ?_
  refine ar_iast M_M_note rfl h73 (vp_in_nI (by omega) (by decide)) (fun h4 hf he => ?_)
  rw [nI_clamp (n := (T.length)) (by omega)] at he
  have h56 := hf.at h56 (by simp only [List.mem_cons, List.not_mem_nil, or_false]; omega)
  have h57 := hf.at h57 (by simp only [List.mem_cons, List.not_mem_nil, or_false]; omega)
  have h58 := hf.at h58 (by simp only [List.mem_cons, List.not_mem_nil, or_false]; omega)
  have h59 := hf.at h59 (by simp only [List.mem_cons, List.not_mem_nil, or_false]; omega)
  have h60 := hf.at h60 (by simp only [List.mem_cons, List.not_mem_nil, or_false]; omega)
  have h61 := hf.at h61 (by simp only [List.mem_cons, List.not_mem_nil, or_false]; omega)
  have h71 := hf.at h71 (by simp only [List.mem_cons, List.not_mem_nil, or_false]; omega)
  have h72 := hf.at h72 (by simp only [List.mem_cons, List.not_mem_nil, or_false]; omega)
  have h74 := hf.at h74 (by simp only [List.mem_cons, List.not_mem_nil, or_false]; omega)
  have h75 := hf.at h75 (by simp only [List.mem_cons, List.not_mem_nil, or_false]; omega)
  have h73 : h4[73]? = some (.inl (0, 128, .inl (upd tc (T.length) (nI (wd (B b) i % 1024))))) := he
  have k3 := hf
  refine ar_go M_M_note 1 _ 41 _ [some (.ref 56), some (.int (nI t)), some (.int (nI (64 * b + i)))] _ [.ref 56] rfl ?_
  refine ar_get M_M_note rfl rfl h56 rfl ?_
  refine ar_go M_M_note 1 _ 45 _ [some (.ref 56), some (.int (nI t)), some (.int (nI (64 * b + i)))] _ [.ref 56, .ref 74] rfl ?_
  refine ar_get M_M_note rfl rfl h56 rfl ?_
  refine ar_go M_M_note 1 _ 49 _ [some (.ref 56), some (.int (nI t)), some (.int (nI (64 * b + i)))] _ [.ref 56, .int (nI (T.length)), .ref 74] rfl ?_
  refine ar_get M_M_note rfl rfl h56 rfl ?_
  refine ar_go M_M_note 1 _ 53 _ [some (.ref 56), some (.int (nI t)), some (.int (nI (64 * b + i)))] _ [.int (nI (64 * b + i)), .ref 60, .int (nI (T.length)), .ref 74] rfl ?_
  refine ar_iald M_M_note rfl (by unfold am_x0; omega) h60 (vp_in_nI (by omega) (by decide)) ?_
  rw [nI_clamp (n := (64 * b + i)) (by omega)]
  refine ar_top (w := .int (gd (B b) i)) (congrArg Value.int e3) ?_
  refine ar_iast M_M_note rfl h74 (vp_in_nI (by omega) (by decide)) (fun h5 hf he => ?_)
  rw [nI_clamp (n := (T.length)) (by omega)] at he
  have h56 := hf.at h56 (by simp only [List.mem_cons, List.not_mem_nil, or_false]; omega)
  have h57 := hf.at h57 (by simp only [List.mem_cons, List.not_mem_nil, or_false]; omega)
  have h58 := hf.at h58 (by simp only [List.mem_cons, List.not_mem_nil, or_false]; omega)
  have h59 := hf.at h59 (by simp only [List.mem_cons, List.not_mem_nil, or_false]; omega)
  have h60 := hf.at h60 (by simp only [List.mem_cons, List.not_mem_nil, or_false]; omega)
  have h61 := hf.at h61 (by simp only [List.mem_cons, List.not_mem_nil, or_false]; omega)
  have h71 := hf.at h71 (by simp only [List.mem_cons, List.not_mem_nil, or_false]; omega)
  have h72 := hf.at h72 (by simp only [List.mem_cons, List.not_mem_nil, or_false]; omega)
  have h73 := hf.at h73 (by simp only [List.mem_cons, List.not_mem_nil, or_false]; omega)
  have h75 := hf.at h75 (by simp only [List.mem_cons, List.not_mem_nil, or_false]; omega)
  have h74 : h5[74]? = some (.inl (0, 128, .inl (upd td (T.length) (gd (B b) i)))) := he
  have k4 := hf
  refine ar_go M_M_note 1 _ 56 _ [some (.ref 56), some (.int (nI t)), some (.int (nI (64 * b + i)))] _ [.ref 56] rfl ?_
  refine ar_get M_M_note rfl rfl h56 rfl ?_
  refine ar_go M_M_note 1 _ 60 _ [some (.ref 56), some (.int (nI t)), some (.int (nI (64 * b + i)))] _ [.ref 56, .ref 75] rfl ?_
  refine ar_get M_M_note rfl rfl h56 rfl ?_
  refine ar_go M_M_note 1 _ 64 _ [some (.ref 56), some (.int (nI t)), some (.int (nI (64 * b + i)))] _ [.ref 56, .int (nI (T.length)), .ref 75] rfl ?_
  refine ar_get M_M_note rfl rfl h56 rfl ?_
  refine ar_go M_M_note 1 _ 68 _ [some (.ref 56), some (.int (nI t)), some (.int (nI (64 * b + i)))] _ [.int (nI (64 * b + i)), .ref 61, .int (nI (T.length)), .ref 75] rfl ?_
  refine ar_zald M_M_note rfl h61 (vp_in_nI (by omega) (by decide)) ?_
  rw [nI_clamp (n := (64 * b + i)) (by omega)]
  refine ar_top (w := .int (bi (dd (B b) i))) (congrArg Value.int e4) ?_
  refine ar_zast M_M_note rfl h75 (vp_in_nI (by omega) (by decide)) (fun h6 hf he => ?_)
  rw [nI_clamp (n := (T.length)) (by omega)] at he
  have h56 := hf.at h56 (by simp only [List.mem_cons, List.not_mem_nil, or_false]; omega)
  have h57 := hf.at h57 (by simp only [List.mem_cons, List.not_mem_nil, or_false]; omega)
  have h58 := hf.at h58 (by simp only [List.mem_cons, List.not_mem_nil, or_false]; omega)
  have h59 := hf.at h59 (by simp only [List.mem_cons, List.not_mem_nil, or_false]; omega)
  have h60 := hf.at h60 (by simp only [List.mem_cons, List.not_mem_nil, or_false]; omega)
  have h61 := hf.at h61 (by simp only [List.mem_cons, List.not_mem_nil, or_false]; omega)
  have h71 := hf.at h71 (by simp only [List.mem_cons, List.not_mem_nil, or_false]; omega)
  have h72 := hf.at h72 (by simp only [List.mem_cons, List.not_mem_nil, or_false]; omega)
  have h73 := hf.at h73 (by simp only [List.mem_cons, List.not_mem_nil, or_false]; omega)
  have h74 := hf.at h74 (by simp only [List.mem_cons, List.not_mem_nil, or_false]; omega)
  have h75 : h6[75]? = some (.inl (2, 128, .inl (upd te (T.length) (vp_nar .boolean (bi (dd (B b) i)))))) := he
  have k5 := hf
  rw [nar_bi] at h75
  refine ar_go M_M_note 2 _ 72 _ [some (.ref 56), some (.int (nI t)), some (.int (nI (64 * b + i)))] _ [.ref 56, .ref 56] rfl ?_
  refine ar_get M_M_note rfl rfl h56 rfl ?_
  refine ar_go M_M_note 2 _ 77 _ [some (.ref 56), some (.int (nI t)), some (.int (nI (64 * b + i)))] _ [.int (nI (T.length) + nI 1), .ref 56] rfl ?_
  refine ar_top (w := .int (nI ((T.length) + 1))) (congrArg Value.int (nI_add (T.length) 1)) ?_
  refine ar_put M_M_note rfl rfl h56 (Nat.le_of_ble_eq_true rfl) rfl (Nat.le_of_ble_eq_true rfl) (fun h7 hf he => ?_)
  have h57 := hf.at h57 (by simp only [List.mem_cons, List.not_mem_nil, or_false]; omega)
  have h58 := hf.at h58 (by simp only [List.mem_cons, List.not_mem_nil, or_false]; omega)
  have h59 := hf.at h59 (by simp only [List.mem_cons, List.not_mem_nil, or_false]; omega)
  have h60 := hf.at h60 (by simp only [List.mem_cons, List.not_mem_nil, or_false]; omega)
  have h61 := hf.at h61 (by simp only [List.mem_cons, List.not_mem_nil, or_false]; omega)
  have h71 := hf.at h71 (by simp only [List.mem_cons, List.not_mem_nil, or_false]; omega)
  have h72 := hf.at h72 (by simp only [List.mem_cons, List.not_mem_nil, or_false]; omega)
  have h73 := hf.at h73 (by simp only [List.mem_cons, List.not_mem_nil, or_false]; omega)
  have h74 := hf.at h74 (by simp only [List.mem_cons, List.not_mem_nil, or_false]; omega)
  have h75 := hf.at h75 (by simp only [List.mem_cons, List.not_mem_nil, or_false]; omega)
  have h56 : h7[56]? = some (.inr (5, [.ref 57, .ref 58, .ref 59, .ref 60, .ref 61, .long s, .ref 62, .ref 63, .int ud, .int ld, .int pr, .ref 64, .ref 65, .ref 66, .ref 67, .int uD, .int lD, .ref 68, .ref 69, .ref 70, .int nd, .int (nI ((T.length) + 1)), .ref 71, .ref 72, .ref 73, .ref 74, .ref 75])) := he
  have k6 := hf
  have kk : fr [56, 71, 72, 73, 74, 75] h h7 := (((((k1.mono (by simp)).tr k2 (fun _ z => z) (by simp)).tr k3 (fun _ z => z) (by simp)).tr k4 (fun _ z => z) (by simp)).tr k5 (fun _ z => z) (by simp)).tr k6 (fun _ z => z) (by simp)
  exact ar_R M_M_note rfl rfl rfl rfl ⟨rfl, kk, by rw [List.length_append]; exact h56, by rw [List.length_append, List.length_singleton]; omega, _, _, _, _, _, ⟨h71, h72, h73, h74, h75⟩, isTc_app hTc (t, en (B b) i)⟩
def ofT (T : Tk) (B : Nat → Bk) (t b i : Nat) : Tk := T ++ (if knB (B b) (B t) i = true then [(t, en (B b) i)] else [])
theorem c_M_offer (X : am_X) (d : Nat) (h : am_H) {B : Nat → Bk} {T : Tk} {s : Int64} {ud ld pr uD lD nd : Int32} (h56 : isM0 h s ud ld pr uD lD nd (nI T.length)) (hB : isMb h B) (hT : isT h T) {t b i : Nat} (ht : t < 4) (hb : b < 4) (hi : i < (B b).length) (hT1 : T.length < 128) : ar Pg X (d + 1) n_M_offer 0 [some (.ref 56), some (.int (nI t)), some (.int (nI (64 * b + i))), none] [] h (fun rr h' => (∃ v, rr = some (.int v)) ∧ fr [56, 71, 72, 73, 74, 75] h h' ∧ isM0 h' s ud ld pr uD lD nd (nI (ofT T B t b i).length) ∧ isT h' (ofT T B t b i)) := by
  have hB0 := hB
  obtain ⟨sz, nu, ve, gr, dr, ⟨h57, h58, h59, h60, h61⟩, hc0⟩ := hB
  have h560 := h56
  unfold isM0 at h56
  have hT0 := hT
  obtain ⟨hTl, ta, tb, tc, td, te, ⟨h71, h72, h73, h74, h75⟩, hTc⟩ := hT
  obtain ⟨hsz, ⟨hlen, hS, hV⟩, hfa⟩ := hc0 b hb
  obtain ⟨e1, e2, e3, e4⟩ := hfa i hi
  have hvi := hV i hi
  obtain ⟨hszt, ⟨hlent, hSt, hVt⟩, hfat⟩ := hc0 t ht
  refine ar_go M_M_offer 3 _ 3 _ [some (.ref 56), some (.int (nI t)), some (.int (nI (64 * b + i))), none] _ [.ref 56, .int (nI t), .ref 56] rfl ?_
  refine ar_get M_M_offer rfl rfl h56 rfl ?_
  refine ar_go M_M_offer 1 _ 7 _ [some (.ref 56), some (.int (nI t)), some (.int (nI (64 * b + i))), none] _ [.int (nI (64 * b + i)), .ref 58, .int (nI t), .ref 56] rfl ?_
  refine ar_iald M_M_offer rfl (by unfold am_x0; omega) h58 (vp_in_nI (by omega) (by decide)) ?_
  rw [nI_clamp (n := (64 * b + i)) (by omega)]
  refine ar_top (w := .int (nI (wd (B b) i / 1024))) (congrArg Value.int e1) ?_
  refine ar_CV M_M_offer rfl rfl (Or.inl rfl) rfl rfl (Nat.le_of_ble_eq_true rfl) h56 M_M_find (Nat.le_of_ble_eq_true rfl) (c_M_find X d _ h560 hB0 ht (by omega)) (fun r1 h1 hq => ?_)
  obtain ⟨rfl, rfl⟩ := hq
  refine ⟨rfl, ?_⟩
  show ar Pg _ _ _ 11 [some (.ref 56), some (.int (nI t)), some (.int (nI (64 * b + i))), none] [.int (fnR (B t) t (wd (B b) i / 1024))] _ _
  obtain ⟨n, hn⟩ : ∃ n, n = wd (B b) i / 1024 := ⟨_, rfl⟩
  rw [← hn]
  have hpl := (pos_pl (B t) n hSt).1
  by_cases hh : hasAt (B t) (pos (B t) n) n = true
  · obtain ⟨p, hpe⟩ : ∃ p, p = pos (B t) n := ⟨_, rfl⟩
    rw [fnR, ← hpe, if_pos (by rw [hpe]; exact hh)]
    rw [← hpe] at hh hpl
    have hp := hasAt_iff.mp hh
    have hvp := hVt p hp.1
    obtain ⟨g1, g2, g3, g4⟩ := hfat p hp.1
    refine ar_go M_M_offer 2 _ 13 _ [some (.ref 56), some (.int (nI t)), some (.int (nI (64 * b + i))), some (.int (nI (64 * t + p)))] _ [.int (nI (64 * t + p))] rfl ?_
    refine ar_if M_M_offer rfl rfl (fun z => absurd (of_decide_eq_true z) (nI_pos (by omega))) (fun _ => ?_)
    refine ar_go M_M_offer 1 _ 17 _ [some (.ref 56), some (.int (nI t)), some (.int (nI (64 * b + i))), some (.int (nI (64 * t + p)))] _ [.ref 56] rfl ?_
    refine ar_get M_M_offer rfl rfl h56 rfl ?_
    refine ar_go M_M_offer 1 _ 21 _ [some (.ref 56), some (.int (nI t)), some (.int (nI (64 * b + i))), some (.int (nI (64 * t + p)))] _ [.int (nI (64 * t + p)), .ref 59] rfl ?_
    refine ar_iald M_M_offer rfl (by unfold am_x0; omega) h59 (vp_in_nI (by omega) (by decide)) ?_
    rw [nI_clamp (n := (64 * t + p)) (by omega)]
    refine ar_top (w := .int (nI (wd (B t) p % 1024))) (congrArg Value.int g2) ?_
    refine ar_go M_M_offer 1 _ 23 _ [some (.ref 56), some (.int (nI t)), some (.int (nI (64 * b + i))), some (.int (nI (64 * t + p)))] _ [.ref 56, .int (nI (wd (B t) p % 1024))] rfl ?_
    refine ar_get M_M_offer rfl rfl h56 rfl ?_
    refine ar_go M_M_offer 1 _ 27 _ [some (.ref 56), some (.int (nI t)), some (.int (nI (64 * b + i))), some (.int (nI (64 * t + p)))] _ [.int (nI (64 * b + i)), .ref 59, .int (nI (wd (B t) p % 1024))] rfl ?_
    refine ar_iald M_M_offer rfl (by unfold am_x0; omega) h59 (vp_in_nI (by omega) (by decide)) ?_
    rw [nI_clamp (n := (64 * b + i)) (by omega)]
    refine ar_top (w := .int (nI (wd (B b) i % 1024))) (congrArg Value.int e2) ?_
    refine ar_icmp M_M_offer rfl rfl (fun hc => ?_) (fun hc => ?_)
    · have hc := c2_lt_t (a := (wd (B t) p % 1024)) (b := (wd (B b) i % 1024)) (by omega) (by omega) hc
      have hk : knB (B b) (B t) i = true := by unfold knB; rw [← hn, ← hpe, decide_eq_true (show wd (B t) p < wd (B b) i by have := hp.2; omega), Bool.or_true]
      refine ar_go M_M_offer 3 _ 36 _ [some (.ref 56), some (.int (nI t)), some (.int (nI (64 * b + i))), some (.int (nI (64 * t + p)))] _ [.int (nI (64 * b + i)), .int (nI t), .ref 56] rfl ?_
      refine ar_CV M_M_offer rfl rfl (Or.inl rfl) rfl rfl (Nat.le_of_ble_eq_true rfl) h56 M_M_note (Nat.le_of_ble_eq_true rfl) (c_M_note X d _ h560 hB0 hT0 (t := t) hb hi hT1) (fun r1 h2 hq => ?_)
      obtain ⟨rfl, hf, hm, hT2⟩ := hq
      refine ⟨hf.1, ?_⟩
      show ar Pg _ _ _ 39 [some (.ref 56), some (.int (nI t)), some (.int (nI (64 * b + i))), some (.int (nI (64 * t + p)))] [] _ _
      refine ar_go M_M_offer 1 _ 40 _ [some (.ref 56), some (.int (nI t)), some (.int (nI (64 * b + i))), some (.int (nI (64 * t + p)))] _ [.int (nI 1)] rfl ?_
      have ho : ofT T B t b i = T ++ [(t, en (B b) i)] := by unfold ofT; rw [if_pos hk]
      exact ar_zret M_M_offer rfl rfl (Or.inr rfl) ⟨⟨_, rfl⟩, hf, by rw [ho]; exact hm, by rw [ho]; exact hT2⟩
    · have hc := c2_lt_f (a := (wd (B t) p % 1024)) (b := (wd (B b) i % 1024)) (by omega) (by omega) hc
      have hk : knB (B b) (B t) i = false := by unfold knB; rw [← hn, ← hpe, hh, decide_eq_false (show ¬ wd (B t) p < wd (B b) i by have := hp.2; omega)]; rfl
      have ho : ofT T B t b i = T := by unfold ofT; rw [if_neg (by rw [hk]; decide), List.append_nil]
      refine ar_go M_M_offer 1 _ 32 _ [some (.ref 56), some (.int (nI t)), some (.int (nI (64 * b + i))), some (.int (nI (64 * t + p)))] _ [.int (nI 0)] rfl ?_
      exact ar_zret M_M_offer rfl rfl (Or.inl rfl) (⟨⟨_, rfl⟩, fr.rf _ _, by rw [ho]; exact h560, by rw [ho]; exact hT0⟩)
  · have hh : hasAt (B t) (pos (B t) n) n = false := by simpa using hh
    rw [fnR, if_neg (by rw [hh]; decide)]
    refine ar_go M_M_offer 2 _ 13 _ [some (.ref 56), some (.int (nI t)), some (.int (nI (64 * b + i))), some (.int (-1))] _ [.int (-1)] rfl ?_
    refine ar_if M_M_offer rfl rfl (fun _ => ?_) (fun z => absurd z (by decide))
    have hk : knB (B b) (B t) i = true := by unfold knB; rw [← hn, hh]; rfl
    refine ar_go M_M_offer 3 _ 36 _ [some (.ref 56), some (.int (nI t)), some (.int (nI (64 * b + i))), some (.int (-1))] _ [.int (nI (64 * b + i)), .int (nI t), .ref 56] rfl ?_
    refine ar_CV M_M_offer rfl rfl (Or.inl rfl) rfl rfl (Nat.le_of_ble_eq_true rfl) h56 M_M_note (Nat.le_of_ble_eq_true rfl) (c_M_note X d _ h560 hB0 hT0 (t := t) hb hi hT1) (fun r1 h2 hq => ?_)
    obtain ⟨rfl, hf, hm, hT2⟩ := hq
    refine ⟨hf.1, ?_⟩
    show ar Pg _ _ _ 39 [some (.ref 56), some (.int (nI t)), some (.int (nI (64 * b + i))), some (.int (-1))] [] _ _
    refine ar_go M_M_offer 1 _ 40 _ [some (.ref 56), some (.int (nI t)), some (.int (nI (64 * b + i))), some (.int (-1))] _ [.int (nI 1)] rfl ?_
    have ho : ofT T B t b i = T ++ [(t, en (B b) i)] := by unfold ofT; rw [if_pos hk]
    exact ar_zret M_M_offer rfl rfl (Or.inr rfl) ⟨⟨_, rfl⟩, hf, by rw [ho]; exact hm, by rw [ho]; exact hT2⟩
