/-! The reference: insert, put, drop and what only looks -/
def nwA (f f0 : Nat → Int32) (p hi : Nat) (x : Int32) : Prop := (∀ j, j < p → f j = f0 j) ∧ f p = x ∧ (∀ j, p < j → j ≤ hi → f j = f0 (j - 1)) ∧ ∀ j, hi < j → f j = f0 j
theorem shg.nw {f f0 : Nat → Int32} {p hi : Nat} (h : shg f f0 p hi) (hp : p ≤ hi) (x : Int32) : nwA (upd f p x) f0 p hi x :=
  ⟨fun j hj => by rw [pk_un (by omega)]; exact h.1.1 j (by omega), pk_us, fun j h1 h2 => by rw [pk_un (by omega)]; exact h.1.2 j h1 h2, fun j h1 => by rw [pk_un (by omega)]; exact h.2 j h1⟩
theorem nwA.up {f f0 : Nat → Int32} {p hi : Nat} {x : Int32} (h : nwA f f0 p hi x) (hp : p ≤ hi) (y : Int32) : nwA (upd f p y) f0 p hi y :=
  ⟨fun j hj => by rw [pk_un (by omega)]; exact h.1 j (by omega), pk_us, fun j h1 h2 => by rw [pk_un (by omega)]; exact h.2.2.1 j h1 h2, fun j h1 => by rw [pk_un (by omega)]; exact h.2.2.2 j h1⟩
theorem updB_s (B : Nat → Bk) (b : Nat) (l : Bk) : updB B b l b = l := by unfold updB; rw [if_pos rfl]
theorem updB_n (B : Nat → Bk) {b c : Nat} (h : c ≠ b) (l : Bk) : updB B b l c = B c := by unfold updB; rw [if_neg h]
theorem isMc_ins {B : Nat → Bk} {sz nu0 ve0 gr0 dr0 nu ve gr dr : Nat → Int32} {b n p v : Nat} {g : Int32} {dp : Bool} (H : isMc B sz nu0 ve0 gr0 dr0) (_hb : b < 4) (hp : p ≤ (B b).length) (hl : (B b).length < 64) (h1 : nwA nu nu0 (64 * b + p) (64 * b + (B b).length) (nI n)) (h2 : nwA ve ve0 (64 * b + p) (64 * b + (B b).length) (nI v)) (h3 : nwA gr gr0 (64 * b + p) (64 * b + (B b).length) g) (h4 : nwA dr dr0 (64 * b + p) (64 * b + (B b).length) (bi dp)) (hv : v < 1024) (hg : gB (insP (B b) p (1024 * n + v, g, dp))) : isMc (updB B b (insP (B b) p (1024 * n + v, g, dp))) (upd sz b (nI ((B b).length + 1))) nu ve gr dr := by
  intro c hc
  by_cases e : c = b
  · subst e
    rw [updB_s, pk_us, insP_len hp]
    refine ⟨rfl, hg, fun i hi => ?_⟩
    rw [insP_wd hp, insP_gd hp, insP_dd hp]
    by_cases a : i < p
    · rw [if_pos a, if_pos a, if_pos a, h1.1 _ (by omega), h2.1 _ (by omega), h3.1 _ (by omega), h4.1 _ (by omega)]
      exact (H c hc).2.2 i (by omega)
    · rw [if_neg a, if_neg a, if_neg a]
      by_cases q : i = p
      · subst q
        rw [if_pos rfl, if_pos rfl, if_pos rfl, h1.2.1, h2.2.1, h3.2.1, h4.2.1, show (1024 * n + v) / 1024 = n by omega, show (1024 * n + v) % 1024 = v by omega]
        exact ⟨rfl, rfl, rfl, rfl⟩
      · rw [if_neg q, if_neg q, if_neg q, h1.2.2.1 _ (by omega) (by omega), h2.2.2.1 _ (by omega) (by omega), h3.2.2.1 _ (by omega) (by omega), h4.2.2.1 _ (by omega) (by omega), show 64 * c + i - 1 = 64 * c + (i - 1) by omega]
        exact (H c hc).2.2 (i - 1) (by omega)
  · rw [updB_n B e, pk_un e]
    obtain ⟨a1, a2, a3⟩ := H c hc
    refine ⟨a1, a2, fun i hi => ?_⟩
    have hl2 := a2.1
    rcases Nat.lt_or_ge c b with z | z
    · rw [h1.1 _ (by omega), h2.1 _ (by omega), h3.1 _ (by omega), h4.1 _ (by omega)]
      exact a3 i hi
    · rw [h1.2.2.2 _ (by omega), h2.2.2.2 _ (by omega), h3.2.2.2 _ (by omega), h4.2.2.2 _ (by omega)]
      exact a3 i hi
theorem isMc_set {B : Nat → Bk} {sz nu ve gr dr ve1 gr1 dr1 : Nat → Int32} {b p v : Nat} {g : Int32} {dp : Bool} (H : isMc B sz nu ve gr dr) (hb : b < 4) (hp : p < (B b).length) (h2 : ∀ j, j ≠ 64 * b + p → ve1 j = ve j ∧ gr1 j = gr j ∧ dr1 j = dr j) (h3 : ve1 (64 * b + p) = nI v ∧ gr1 (64 * b + p) = g ∧ dr1 (64 * b + p) = bi dp) (hv : v < 1024) (hg : gB ((B b).set p (1024 * (wd (B b) p / 1024) + v, g, dp))) : isMc (updB B b ((B b).set p (1024 * (wd (B b) p / 1024) + v, g, dp))) sz nu ve1 gr1 dr1 := by
  intro c hc
  have hlb := (H b hb).2.1.1
  by_cases e : c = b
  · subst e
    rw [updB_s, List.length_set]
    refine ⟨(H c hc).1, hg, fun i hi => ?_⟩
    rw [set_wd hp, set_gd hp, set_dd hp]
    by_cases q : i = p
    · subst q
      rw [if_pos rfl, if_pos rfl, if_pos rfl, h3.1, h3.2.1, h3.2.2, show (1024 * (wd (B c) i / 1024) + v) / 1024 = wd (B c) i / 1024 by omega, show (1024 * (wd (B c) i / 1024) + v) % 1024 = v by omega]
      exact ⟨((H c hc).2.2 i hi).1, rfl, rfl, rfl⟩
    · obtain ⟨z1, z2, z3⟩ := h2 (64 * c + i) (by omega)
      rw [if_neg q, if_neg q, if_neg q, z1, z2, z3]
      exact (H c hc).2.2 i hi
  · rw [updB_n B e]
    obtain ⟨a1, a2, a3⟩ := H c hc
    refine ⟨a1, a2, fun i hi => ?_⟩
    have hl2 := a2.1
    obtain ⟨z1, z2, z3⟩ := h2 (64 * c + i) (by omega)
    rw [z1, z2, z3]
    exact a3 i hi
theorem c_M_insert (X : am_X) (d : Nat) (h : am_H) {B : Nat → Bk} {s : Int64} {ud ld pr uD lD nd tn : Int32} {sz nu0 ve0 gr0 dr0 : Nat → Int32} (h56 : isM0 h s ud ld pr uD lD nd tn) (hA : isMa h sz nu0 ve0 gr0 dr0) (hc0 : isMc B sz nu0 ve0 gr0 dr0) {b n : Nat} (hb : b < 4) (hn : n < 2 ^ 31) (hlen : (B b).length < 64) (hno : hasAt (B b) (pos (B b) n) n = false) : ar Pg X d n_M_insert 0 [some (.ref 56), some (.int (nI b)), some (.int (nI n)), none] [] h (fun rr h' => rr = some (.int (nI (64 * b + pos (B b) n))) ∧ fr [57, 58, 59, 60, 61] h h' ∧ isM0 h' s ud ld pr uD lD nd tn ∧ ∃ nu ve gr dr : Nat → Int32, shg nu nu0 (64 * b + pos (B b) n) (64 * b + (B b).length) ∧ shg ve ve0 (64 * b + pos (B b) n) (64 * b + (B b).length) ∧ shg gr gr0 (64 * b + pos (B b) n) (64 * b + (B b).length) ∧ shg dr dr0 (64 * b + pos (B b) n) (64 * b + (B b).length) ∧ isMa h' (upd sz b (nI ((B b).length + 1))) (upd nu (64 * b + pos (B b) n) (nI n)) (upd ve (64 * b + pos (B b) n) (nI 0)) gr dr) := by
  obtain ⟨h57, h58, h59, h60, h61⟩ := hA
  unfold isM0 at h56
  refine ar_go M_M_insert 3 _ 4 _ [some (.ref 56), some (.int (nI b)), some (.int (nI n)), none] _ [.int (nI 64 * nI b)] rfl ?_
  refine ar_top (w := .int (nI (64 * b))) (congrArg Value.int (pk_mul 64 b)) ?_
  refine ar_go M_M_insert 1 _ 5 _ [some (.ref 56), some (.int (nI b)), some (.int (nI n)), none] _ [.ref 56, .int (nI (64 * b))] rfl ?_
  refine ar_get M_M_insert rfl rfl h56 rfl ?_
  refine ar_go M_M_insert 1 _ 9 _ [some (.ref 56), some (.int (nI b)), some (.int (nI n)), none] _ [.int (nI b), .ref 57, .int (nI (64 * b))] rfl ?_
  refine ar_iald M_M_insert rfl (by unfold am_x0; omega) h57 (vp_in_nI (by omega) (by decide)) ?_
  rw [nI_clamp (n := b) (by omega)]
  refine ar_top (w := .int (nI ((B b).length))) (congrArg Value.int ((hc0 b hb).1)) ?_
  refine ar_go M_M_insert 1 _ 11 _ [some (.ref 56), some (.int (nI b)), some (.int (nI n)), none] _ [.int (nI (64 * b) + nI ((B b).length))] rfl ?_
  refine ar_top (w := .int (nI ((64 * b) + ((B b).length)))) (congrArg Value.int (nI_add (64 * b) ((B b).length))) ?_
  refine ar_go M_M_insert 1 _ 12 _ [some (.ref 56), some (.int (nI b)), some (.int (nI n)), some (.int (nI ((64 * b) + ((B b).length))))] _ [] rfl ?_
  refine c_M_in_loop X d h hc0 hb hn hlen hno ?_ (B b).length (B b).length h nu0 ve0 gr0 dr0 (Nat.le_refl _) (Nat.le_refl _) (pos_pl (B b) n (hc0 b hb).2.1.2.1).1 (shg.rf _ _) (shg.rf _ _) (shg.rf _ _) (shg.rf _ _) ⟨h57, h58, h59, h60, h61⟩ h56 (fr.rf _ _)
  clear h57 h58 h59 h60 h61 h56
  intro h1 nu ve gr dr s1 s2 s3 s4 _ hA h56 hF
  obtain ⟨h57, h58, h59, h60, h61⟩ := hA
  unfold isM0 at h56
  have hpl := (pos_pl (B b) n (hc0 b hb).2.1.2.1).1
  generalize pos (B b) n = p at *
  refine ar_go M_M_insert 1 _ 95 _ [some (.ref 56), some (.int (nI b)), some (.int (nI n)), some (.int (nI (64 * b + p)))] _ [.ref 56] rfl ?_
  refine ar_get M_M_insert rfl rfl h56 rfl ?_
  refine ar_go M_M_insert 2 _ 100 _ [some (.ref 56), some (.int (nI b)), some (.int (nI n)), some (.int (nI (64 * b + p)))] _ [.int (nI n), .int (nI (64 * b + p)), .ref 58] rfl ?_
  refine ar_iast M_M_insert rfl h58 (vp_in_nI (by omega) (by decide)) (fun h2 hf he => ?_)
  rw [nI_clamp (n := (64 * b + p)) (by omega)] at he
  have h56 := hf.at h56 (by simp only [List.mem_cons, List.not_mem_nil, or_false]; omega)
  have h57 := hf.at h57 (by simp only [List.mem_cons, List.not_mem_nil, or_false]; omega)
  have h59 := hf.at h59 (by simp only [List.mem_cons, List.not_mem_nil, or_false]; omega)
  have h60 := hf.at h60 (by simp only [List.mem_cons, List.not_mem_nil, or_false]; omega)
  have h61 := hf.at h61 (by simp only [List.mem_cons, List.not_mem_nil, or_false]; omega)
  have h58 : h2[58]? = some (.inl (0, 256, .inl (upd nu (64 * b + p) (nI n)))) := he
  have k1 := hf
  refine ar_go M_M_insert 1 _ 102 _ [some (.ref 56), some (.int (nI b)), some (.int (nI n)), some (.int (nI (64 * b + p)))] _ [.ref 56] rfl ?_
  refine ar_get M_M_insert rfl rfl h56 rfl ?_
  refine ar_go M_M_insert 2 _ 107 _ [some (.ref 56), some (.int (nI b)), some (.int (nI n)), some (.int (nI (64 * b + p)))] _ [.int (nI 0), .int (nI (64 * b + p)), .ref 59] rfl ?_
  refine ar_iast M_M_insert rfl h59 (vp_in_nI (by omega) (by decide)) (fun h3 hf he => ?_)
  rw [nI_clamp (n := (64 * b + p)) (by omega)] at he
  have h56 := hf.at h56 (by simp only [List.mem_cons, List.not_mem_nil, or_false]; omega)
  have h57 := hf.at h57 (by simp only [List.mem_cons, List.not_mem_nil, or_false]; omega)
  have h58 := hf.at h58 (by simp only [List.mem_cons, List.not_mem_nil, or_false]; omega)
  have h60 := hf.at h60 (by simp only [List.mem_cons, List.not_mem_nil, or_false]; omega)
  have h61 := hf.at h61 (by simp only [List.mem_cons, List.not_mem_nil, or_false]; omega)
  have h59 : h3[59]? = some (.inl (0, 256, .inl (upd ve (64 * b + p) (nI 0)))) := he
  have k2 := hf
  refine ar_go M_M_insert 1 _ 109 _ [some (.ref 56), some (.int (nI b)), some (.int (nI n)), some (.int (nI (64 * b + p)))] _ [.ref 56] rfl ?_
  refine ar_get M_M_insert rfl rfl h56 rfl ?_
  refine ar_go M_M_insert 2 _ 114 _ [some (.ref 56), some (.int (nI b)), some (.int (nI n)), some (.int (nI (64 * b + p)))] _ [.int (nI b), .ref 57, .int (nI b), .ref 57] rfl ?_
  refine ar_iald M_M_insert rfl (by unfold am_x0; omega) h57 (vp_in_nI (by omega) (by decide)) ?_
  rw [nI_clamp (n := b) (by omega)]
  refine ar_top (w := .int (nI ((B b).length))) (congrArg Value.int ((hc0 b hb).1)) ?_
  refine ar_go M_M_insert 2 _ 117 _ [some (.ref 56), some (.int (nI b)), some (.int (nI n)), some (.int (nI (64 * b + p)))] _ [.int (nI ((B b).length) + nI 1), .int (nI b), .ref 57] rfl ?_
  refine ar_top (w := .int (nI (((B b).length) + 1))) (congrArg Value.int (nI_add ((B b).length) 1)) ?_
  refine ar_iast M_M_insert rfl h57 (vp_in_nI (by omega) (by decide)) (fun h4 hf he => ?_)
  rw [nI_clamp (n := b) (by omega)] at he
  have h56 := hf.at h56 (by simp only [List.mem_cons, List.not_mem_nil, or_false]; omega)
  have h58 := hf.at h58 (by simp only [List.mem_cons, List.not_mem_nil, or_false]; omega)
  have h59 := hf.at h59 (by simp only [List.mem_cons, List.not_mem_nil, or_false]; omega)
  have h60 := hf.at h60 (by simp only [List.mem_cons, List.not_mem_nil, or_false]; omega)
  have h61 := hf.at h61 (by simp only [List.mem_cons, List.not_mem_nil, or_false]; omega)
  have h57 : h4[57]? = some (.inl (0, 4, .inl (upd sz b (nI (((B b).length) + 1))))) := he
  have k3 := hf
  refine ar_go M_M_insert 1 _ 119 _ [some (.ref 56), some (.int (nI b)), some (.int (nI n)), some (.int (nI (64 * b + p)))] _ [.int (nI (64 * b + p))] rfl ?_
  exact ar_R M_M_insert rfl rfl rfl rfl (⟨rfl, hF.tr (k1.tr (k2.tr k3 (l := [57, 58, 59]) (by simp) (by simp)) (l := [57, 58, 59]) (by simp) (by simp)) (by simp) (by simp), h56, nu, ve, gr, dr, s1, s2, s3, s4, h57, h58, h59, h60, h61⟩)
theorem c_M_pt_end (X : am_X) (d : Nat) (h : am_H) {s : Int64} {ud ld pr uD lD nd tn : Int32} {sz nu ve gr dr : Nat → Int32} (h56 : isM0 h s ud ld pr uD lD nd tn) (hA : isMa h sz nu ve gr dr) {b n q v0 : Nat} {g : Int32} (hb : b < 4) (hq : q < 256) (hv0 : ve q = nI v0) (hv1 : v0 < 1024) : ar Pg X d n_M_put 79 [some (.ref 56), some (.int (nI b)), some (.int (nI n)), some (.int g), some (.int (nI q))] [] h (fun rr h' => rr = some (.int (nI (vr b (v0 / 2)))) ∧ fr [59, 60, 61] h h' ∧ isM0 h' s ud ld pr uD lD nd tn ∧ isMa h' sz nu (upd ve q (nI (vr b (v0 / 2)))) (upd gr q g) (upd dr q (bi false))) := by
  obtain ⟨h57, h58, h59, h60, h61⟩ := hA
  unfold isM0 at h56
  refine ar_go M_M_put 1 _ 80 _ [some (.ref 56), some (.int (nI b)), some (.int (nI n)), some (.int g), some (.int (nI q))] _ [.ref 56] rfl ?_
  refine ar_get M_M_put rfl rfl h56 rfl ?_
  refine ar_go M_M_put 3 _ 87 _ [some (.ref 56), some (.int (nI b)), some (.int (nI n)), some (.int g), some (.int (nI q))] _ [.ref 56, .int (nI 2), .int (nI q), .ref 59] rfl ?_
  refine ar_get M_M_put rfl rfl h56 rfl ?_
  refine ar_go M_M_put 1 _ 92 _ [some (.ref 56), some (.int (nI b)), some (.int (nI n)), some (.int g), some (.int (nI q))] _ [.int (nI q), .ref 59, .int (nI 2), .int (nI q), .ref 59] rfl ?_
  refine ar_iald M_M_put rfl (by unfold am_x0; omega) h59 (vp_in_nI (by omega) (by decide)) ?_
  rw [nI_clamp (n := q) (by omega)]
  refine ar_top (w := .int (nI v0)) (congrArg Value.int hv0) ?_
  refine ar_go M_M_put 1 _ 94 _ [some (.ref 56), some (.int (nI b)), some (.int (nI n)), some (.int g), some (.int (nI q))] _ [.int (nI 2), .int (nI v0), .int (nI 2), .int (nI q), .ref 59] rfl ?_
  refine ar_idiv M_M_put rfl (by decide) ?_
  refine ar_top (w := .int (nI (v0 / 2))) (congrArg Value.int (pk_div (by omega) (by decide) (by decide))) ?_
  refine ar_go M_M_put 2 _ 97 _ [some (.ref 56), some (.int (nI b)), some (.int (nI n)), some (.int g), some (.int (nI q))] _ [.int (nI (v0 / 2) + nI 1), .int (nI 2), .int (nI q), .ref 59] rfl ?_
  refine ar_top (w := .int (nI ((v0 / 2) + 1))) (congrArg Value.int (nI_add (v0 / 2) 1)) ?_
  refine ar_go M_M_put 1 _ 98 _ [some (.ref 56), some (.int (nI b)), some (.int (nI n)), some (.int g), some (.int (nI q))] _ [.int (nI 2 * nI ((v0 / 2) + 1)), .int (nI q), .ref 59] rfl ?_
  refine ar_top (w := .int (nI (2 * ((v0 / 2) + 1)))) (congrArg Value.int (pk_mul 2 ((v0 / 2) + 1))) ?_
  refine ar_go M_M_put 2 _ 100 _ [some (.ref 56), some (.int (nI b)), some (.int (nI n)), some (.int g), some (.int (nI q))] _ [.int (nI 2), .int (nI b), .int (nI (2 * ((v0 / 2) + 1))), .int (nI q), .ref 59] rfl ?_
  refine ar_irem M_M_put rfl (by decide) ?_
  refine ar_top (w := .int (nI (b % 2))) (congrArg Value.int (pk_rem (by omega) (by decide) (by decide))) ?_
  refine ar_go M_M_put 1 _ 102 _ [some (.ref 56), some (.int (nI b)), some (.int (nI n)), some (.int g), some (.int (nI q))] _ [.int (nI (2 * ((v0 / 2) + 1)) + nI (b % 2)), .int (nI q), .ref 59] rfl ?_
  refine ar_top (w := .int (nI ((2 * ((v0 / 2) + 1)) + (b % 2)))) (congrArg Value.int (nI_add (2 * ((v0 / 2) + 1)) (b % 2))) ?_
  refine ar_iast M_M_put rfl h59 (vp_in_nI (by omega) (by decide)) (fun h2 hf he => ?_)
  rw [nI_clamp (n := q) (by omega)] at he
  have h56 := hf.at h56 (by simp only [List.mem_cons, List.not_mem_nil, or_false]; omega)
  have h57 := hf.at h57 (by simp only [List.mem_cons, List.not_mem_nil, or_false]; omega)
  have h58 := hf.at h58 (by simp only [List.mem_cons, List.not_mem_nil, or_false]; omega)
  have h60 := hf.at h60 (by simp only [List.mem_cons, List.not_mem_nil, or_false]; omega)
  have h61 := hf.at h61 (by simp only [List.mem_cons, List.not_mem_nil, or_false]; omega)
  have h59 : h2[59]? = some (.inl (0, 256, .inl (upd ve q (nI ((2 * ((v0 / 2) + 1)) + (b % 2)))))) := he
  have k1 := hf
  refine ar_go M_M_put 1 _ 104 _ [some (.ref 56), some (.int (nI b)), some (.int (nI n)), some (.int g), some (.int (nI q))] _ [.ref 56] rfl ?_
  refine ar_get M_M_put rfl rfl h56 rfl ?_
  refine ar_go M_M_put 2 _ 110 _ [some (.ref 56), some (.int (nI b)), some (.int (nI n)), some (.int g), some (.int (nI q))] _ [.int g, .int (nI q), .ref 60] rfl ?_
  refine ar_iast M_M_put rfl h60 (vp_in_nI (by omega) (by decide)) (fun h3 hf he => ?_)
  rw [nI_clamp (n := q) (by omega)] at he
  have h56 := hf.at h56 (by simp only [List.mem_cons, List.not_mem_nil, or_false]; omega)
  have h57 := hf.at h57 (by simp only [List.mem_cons, List.not_mem_nil, or_false]; omega)
  have h58 := hf.at h58 (by simp only [List.mem_cons, List.not_mem_nil, or_false]; omega)
  have h59 := hf.at h59 (by simp only [List.mem_cons, List.not_mem_nil, or_false]; omega)
  have h61 := hf.at h61 (by simp only [List.mem_cons, List.not_mem_nil, or_false]; omega)
  have h60 : h3[60]? = some (.inl (0, 256, .inl (upd gr q g))) := he
  have k2 := hf
  refine ar_go M_M_put 1 _ 112 _ [some (.ref 56), some (.int (nI b)), some (.int (nI n)), some (.int g), some (.int (nI q))] _ [.ref 56] rfl ?_
  refine ar_get M_M_put rfl rfl h56 rfl ?_
  refine ar_go M_M_put 2 _ 118 _ [some (.ref 56), some (.int (nI b)), some (.int (nI n)), some (.int g), some (.int (nI q))] _ [.int (nI 0), .int (nI q), .ref 61] rfl ?_
  refine ar_zast M_M_put rfl h61 (vp_in_nI (by omega) (by decide)) (fun h4 hf he => ?_)
  rw [nI_clamp (n := q) (by omega)] at he
  have h56 := hf.at h56 (by simp only [List.mem_cons, List.not_mem_nil, or_false]; omega)
  have h57 := hf.at h57 (by simp only [List.mem_cons, List.not_mem_nil, or_false]; omega)
  have h58 := hf.at h58 (by simp only [List.mem_cons, List.not_mem_nil, or_false]; omega)
  have h59 := hf.at h59 (by simp only [List.mem_cons, List.not_mem_nil, or_false]; omega)
  have h60 := hf.at h60 (by simp only [List.mem_cons, List.not_mem_nil, or_false]; omega)
  have h61 : h4[61]? = some (.inl (2, 256, .inl (upd dr q (vp_nar .boolean (nI 0))))) := he
  have k3 := hf
  refine ar_go M_M_put 1 _ 120 _ [some (.ref 56), some (.int (nI b)), some (.int (nI n)), some (.int g), some (.int (nI q))] _ [.ref 56] rfl ?_
  refine ar_get M_M_put rfl rfl h56 rfl ?_
  refine ar_go M_M_put 1 _ 125 _ [some (.ref 56), some (.int (nI b)), some (.int (nI n)), some (.int g), some (.int (nI q))] _ [.int (nI q), .ref 59] rfl ?_
  refine ar_iald M_M_put rfl (by unfold am_x0; omega) h59 (vp_in_nI (by omega) (by decide)) ?_
  rw [nI_clamp (n := q) (by omega)]
  refine ar_top (w := .int (nI (vr b (v0 / 2)))) (congrArg Value.int pk_us) ?_
  exact ar_R M_M_put rfl rfl rfl rfl (⟨rfl, k1.tr (k2.tr k3 (l := [59, 60, 61]) (by simp) (by simp)) (by simp) (by simp), h56, h57, h58, h59, h60, h61⟩)
theorem nI_nn {a : Nat} (h : a < 2 ^ 31) : (0 : Int32) ≤ nI a := (nI_leI (a := 0) (by decide) h).mpr (Nat.zero_le _)
theorem c_M_put (X : am_X) (d : Nat) (h : am_H) {B : Nat → Bk} {s : Int64} {ud ld pr uD lD nd tn : Int32} (h56 : isM0 h s ud ld pr uD lD nd tn) (hB : isMb h B) (v w g : Int32) : ar Pg X (d + 1) n_M_put 0 [some (.ref 56), some (.int v), some (.int w), some (.int g), none] [] h (fun rr h' => rr = some (.int (ptR B v w)) ∧ fr [57, 58, 59, 60, 61] h h' ∧ isM0 h' s ud ld pr uD lD nd tn ∧ isMb h' (ptB B v w g)) := by
  have hB0 := hB
  obtain ⟨sz, nu, ve, gr, dr, ⟨h57, h58, h59, h60, h61⟩, hc0⟩ := hB
  have h560 := h56
  unfold isM0 at h56
  refine ar_go M_M_put 1 _ 1 _ [some (.ref 56), some (.int v), some (.int w), some (.int g), none] _ [.int v] rfl ?_
  refine ar_CS M_M_put rfl rfl (Nat.le_of_ble_eq_true rfl) rfl rfl (Nat.le_of_ble_eq_true rfl) M_M_isBank (Nat.le_of_ble_eq_true rfl) (c_M_isBank X d _ v) (fun r1 h1 hq => ?_)
  obtain ⟨rfl, rfl⟩ := hq
  refine ⟨rfl, ?_⟩
  show ar Pg _ _ _ 4 [some (.ref 56), some (.int v), some (.int w), some (.int g), none] [.int (bi (rng 4 v))] _ _
  refine ar_if M_M_put rfl rfl (fun hc1 => ?_) (fun hc1 => ?_)
  · have hc1 := bi_eq_t hc1
    refine ar_go M_M_put 1 _ 15 _ [some (.ref 56), some (.int v), some (.int w), some (.int g), none] _ [.int (-1)] rfl ?_
    exact ar_R M_M_put rfl rfl rfl rfl (⟨by rw [show ptR B v w = _ from onB_o1 hc1 _ _] <;> rfl, fr.rf _ _, h560, by rw [show ptB B v w g = B from onB_o1 hc1 _ _]; exact hB0⟩)
  · have hc1 := bi_eq_f hc1
    refine ar_go M_M_put 1 _ 8 _ [some (.ref 56), some (.int v), some (.int w), some (.int g), none] _ [.int w] rfl ?_
    refine ar_CS M_M_put rfl rfl (Nat.le_of_ble_eq_true rfl) rfl rfl (Nat.le_of_ble_eq_true rfl) M_M_isNumber (Nat.le_of_ble_eq_true rfl) (c_M_isNumber X d _ w) (fun r1 h1 hq => ?_)
    obtain ⟨rfl, rfl⟩ := hq
    refine ⟨rfl, ?_⟩
    show ar Pg _ _ _ 11 [some (.ref 56), some (.int v), some (.int w), some (.int g), none] [.int (bi (rng 10000 w))] _ _
    refine ar_if M_M_put rfl rfl (fun hc2 => ?_) (fun hc2 => ?_)
    · have hc2 := bi_ne_t hc2
      obtain ⟨b, hb, rfl⟩ := rng_ex (by decide) hc1
      obtain ⟨n, hn, rfl⟩ := rng_ex (by decide) hc2
      obtain ⟨hsz, ⟨hlen, hS, hV⟩, hfa⟩ := hc0 b hb
      have hpl := (pos_pl (B b) n hS).1
      by_cases hh : hasAt (B b) (pos (B b) n) n = true
      · have hp := hasAt_iff.mp hh
        obtain ⟨p, hpe⟩ : ∃ p, p = pos (B b) n := ⟨_, rfl⟩
        rw [← hpe] at hh hp hpl
        have hvp := hV p hp.1
        obtain ⟨e1, e2, e3, e4⟩ := hfa p hp.1
        refine ar_go M_M_put 3 _ 19 _ [some (.ref 56), some (.int (nI b)), some (.int (nI n)), some (.int g), none] _ [.int (nI n), .int (nI b), .ref 56] rfl ?_
        refine ar_CV M_M_put rfl rfl (Or.inl rfl) rfl rfl (Nat.le_of_ble_eq_true rfl) h56 M_M_find (Nat.le_of_ble_eq_true rfl) (c_M_find X d _ h560 hB0 hb (by omega)) (fun r1 h1 hq => ?_)
        obtain ⟨rfl, rfl⟩ := hq
        refine ⟨rfl, ?_⟩
        rw [fnR, ← hpe, if_pos hh]
        show ar Pg _ _ _ 22 [some (.ref 56), some (.int (nI b)), some (.int (nI n)), some (.int g), none] [.int (nI (64 * b + p))] _ _
        refine ar_go M_M_put 2 _ 26 _ [some (.ref 56), some (.int (nI b)), some (.int (nI n)), some (.int g), some (.int (nI (64 * b + p)))] _ [.int (nI (64 * b + p))] rfl ?_
        refine ar_if M_M_put rfl rfl (fun _ => ?_) (fun z => absurd (of_decide_eq_false z) (fun z => z (nI_nn (by omega))))
        refine ar_go M_M_put 1 _ 44 _ [some (.ref 56), some (.int (nI b)), some (.int (nI n)), some (.int g), some (.int (nI (64 * b + p)))] _ [.ref 56] rfl ?_
        refine ar_get M_M_put rfl rfl h56 rfl ?_
        refine ar_go M_M_put 1 _ 49 _ [some (.ref 56), some (.int (nI b)), some (.int (nI n)), some (.int g), some (.int (nI (64 * b + p)))] _ [.int (nI (64 * b + p)), .ref 59] rfl ?_
        refine ar_iald M_M_put rfl (by unfold am_x0; omega) h59 (vp_in_nI (by omega) (by decide)) ?_
        rw [nI_clamp (n := (64 * b + p)) (by omega)]
        refine ar_top (w := .int (nI (wd (B b) p % 1024))) (congrArg Value.int e2) ?_
        refine ar_go M_M_put 1 _ 51 _ [some (.ref 56), some (.int (nI b)), some (.int (nI n)), some (.int g), some (.int (nI (64 * b + p)))] _ [.int (nI 2), .int (nI (wd (B b) p % 1024))] rfl ?_
        refine ar_idiv M_M_put rfl (by decide) ?_
        refine ar_top (w := .int (nI ((wd (B b) p % 1024) / 2))) (congrArg Value.int (pk_div (by omega) (by decide) (by decide))) ?_
        refine ar_go M_M_put 1 _ 55 _ [some (.ref 56), some (.int (nI b)), some (.int (nI n)), some (.int g), some (.int (nI (64 * b + p)))] _ [.int (nI 500), .int (nI ((wd (B b) p % 1024) / 2))] rfl ?_
        have hcte : ct (B b) n = wd (B b) p % 1024 / 2 := by unfold ct; rw [← hpe, if_pos hh]
        refine ar_icmp M_M_put rfl rfl (fun hc3 => ?_) (fun hc3 => ?_)
        · have hc3 := c2_ne_t (a := ((wd (B b) p % 1024) / 2)) (b := 500) (by omega) (by omega) hc3
          have hfu : fuP (B b) n = false := by unfold fuP; rw [hcte, ← hpe, hh]; simp; omega
          refine ar_go M_M_put 1 _ 63 _ [some (.ref 56), some (.int (nI b)), some (.int (nI n)), some (.int g), some (.int (nI (64 * b + p)))] _ [.int (nI (64 * b + p))] rfl ?_
          refine ar_if M_M_put rfl rfl (fun _ => ?_) (fun z => absurd (of_decide_eq_false z) (fun z => z (nI_nn (by omega))))
          refine ar_go M_M_put 2 _ 79 _ [some (.ref 56), some (.int (nI b)), some (.int (nI n)), some (.int g), some (.int (nI (64 * b + p)))] _ [] rfl ?_
          refine ar_mono (c_M_pt_end X (d + 1) _ h560 ⟨h57, h58, h59, h60, h61⟩ hb (by omega) e2 (by omega)) ?_
          rintro rr h' ⟨rfl, hf, hm, hA⟩
          have hw1 : wd (B b) p / 1024 = n := hp.2
          have hst : stR (B b) (1024 * n + vr b (ct (B b) n), g, false) = (B b).set p (1024 * (wd (B b) p / 1024) + vr b (wd (B b) p % 1024 / 2), g, false) := by unfold stR; simp only []; rw [show (1024 * n + vr b (ct (B b) n)) / 1024 = n by rw [hcte]; unfold vr; omega, ← hpe, if_pos hh, hcte, hw1]
          have hgg : gB (stR (B b) (1024 * n + vr b (ct (B b) n), g, false)) := ⟨stR_len hlen hS _, stR_S hS _, stR_V hS hV ⟨by simp only [hcte]; unfold vr; omega, by simp only [hcte]; unfold vr; omega, by simp only [hcte]; unfold vr; omega⟩⟩
          refine ⟨by rw [show ptR B (nI b) (nI n) = _ from onB_in hb hn _ _, if_neg (by rw [hfu]; decide), hcte], hf.mono (by simp), hm, ?_⟩
          rw [show ptB B (nI b) (nI n) g = _ from onB_in hb hn _ _, if_neg (by rw [hfu]; decide)]
          rw [hst] at hgg ⊢
          exact ⟨_, _, _, _, _, hA, isMc_set hc0 hb hp.1 (fun j hj => ⟨pk_un hj, pk_un hj, pk_un hj⟩) ⟨pk_us, pk_us, pk_us⟩ (by unfold vr; omega) hgg⟩
        · have hc3 := c2_ne_f (a := ((wd (B b) p % 1024) / 2)) (b := 500) (by omega) (by omega) hc3
          have hfu : fuP (B b) n = true := by unfold fuP; rw [hcte, hc3]; simp
          refine ar_go M_M_put 1 _ 60 _ [some (.ref 56), some (.int (nI b)), some (.int (nI n)), some (.int g), some (.int (nI (64 * b + p)))] _ [.int (-3)] rfl ?_
          exact ar_R M_M_put rfl rfl rfl rfl (⟨by rw [show ptR B (nI b) (nI n) = _ from onB_in hb hn _ _, if_pos hfu] <;> rfl, fr.rf _ _, h560, by rw [show ptB B (nI b) (nI n) g = _ from onB_in hb hn _ _, if_pos hfu]; exact hB0⟩)
      · have hh : hasAt (B b) (pos (B b) n) n = false := by simpa using hh
        refine ar_go M_M_put 3 _ 19 _ [some (.ref 56), some (.int (nI b)), some (.int (nI n)), some (.int g), none] _ [.int (nI n), .int (nI b), .ref 56] rfl ?_
        refine ar_CV M_M_put rfl rfl (Or.inl rfl) rfl rfl (Nat.le_of_ble_eq_true rfl) h56 M_M_find (Nat.le_of_ble_eq_true rfl) (c_M_find X d _ h560 hB0 hb (by omega)) (fun r1 h1 hq => ?_)
        obtain ⟨rfl, rfl⟩ := hq
        refine ⟨rfl, ?_⟩
        rw [fnR, if_neg (by rw [hh]; decide)]
        show ar Pg _ _ _ 22 [some (.ref 56), some (.int (nI b)), some (.int (nI n)), some (.int g), none] [.int (-1)] _ _
        refine ar_go M_M_put 2 _ 26 _ [some (.ref 56), some (.int (nI b)), some (.int (nI n)), some (.int g), some (.int (-1))] _ [.int (-1)] rfl ?_
        refine ar_if M_M_put rfl rfl (fun z => absurd z (by decide)) (fun _ => ?_)
        refine ar_go M_M_put 1 _ 30 _ [some (.ref 56), some (.int (nI b)), some (.int (nI n)), some (.int g), some (.int (-1))] _ [.ref 56] rfl ?_
        refine ar_get M_M_put rfl rfl h56 rfl ?_
        refine ar_go M_M_put 1 _ 34 _ [some (.ref 56), some (.int (nI b)), some (.int (nI n)), some (.int g), some (.int (-1))] _ [.int (nI b), .ref 57] rfl ?_
        refine ar_iald M_M_put rfl (by unfold am_x0; omega) h57 (vp_in_nI (by omega) (by decide)) ?_
        rw [nI_clamp (n := b) (by omega)]
        refine ar_top (w := .int (nI ((B b).length))) (congrArg Value.int hsz) ?_
        refine ar_go M_M_put 1 _ 37 _ [some (.ref 56), some (.int (nI b)), some (.int (nI n)), some (.int g), some (.int (-1))] _ [.int (nI 64), .int (nI ((B b).length))] rfl ?_
        have hcte : ct (B b) n = 0 := by unfold ct; rw [if_neg (by rw [hh]; decide)]
        refine ar_icmp M_M_put rfl rfl (fun hc3 => ?_) (fun hc3 => ?_)
        · have hc3 := c2_ne_t (a := ((B b).length)) (b := 64) (by omega) (by omega) hc3
          have hfu : fuP (B b) n = false := by unfold fuP; rw [hcte, hh]; simp; omega
          refine ar_go M_M_put 1 _ 63 _ [some (.ref 56), some (.int (nI b)), some (.int (nI n)), some (.int g), some (.int (-1))] _ [.int (-1)] rfl ?_
          refine ar_if M_M_put rfl rfl (fun z => absurd z (by decide)) (fun _ => ?_)
          refine ar_go M_M_put 3 _ 69 _ [some (.ref 56), some (.int (nI b)), some (.int (nI n)), some (.int g), some (.int (-1))] _ [.int (nI n), .int (nI b), .ref 56] rfl ?_
          refine ar_CV M_M_put rfl rfl (Or.inl rfl) rfl rfl (Nat.le_of_ble_eq_true rfl) h56 M_M_insert (Nat.le_of_ble_eq_true rfl) (c_M_insert X d _ h560 ⟨h57, h58, h59, h60, h61⟩ hc0 hb (by omega) (by omega) hh) (fun r1 h2 hq => ?_)
          obtain ⟨rfl, hf1, hm1, nu2, ve2, gr2, dr2, s1, s2, s3, s4, hA1⟩ := hq
          refine ⟨hf1.1, ?_⟩
          show ar Pg _ _ _ 72 [some (.ref 56), some (.int (nI b)), some (.int (nI n)), some (.int g), some (.int (-1))] [.int (nI (64 * b + pos (B b) n))] _ _
          refine ar_go M_M_put 2 _ 79 _ [some (.ref 56), some (.int (nI b)), some (.int (nI n)), some (.int g), some (.int (nI (64 * b + pos (B b) n)))] _ [] rfl ?_
          refine ar_mono (c_M_pt_end X (d + 1) _ hm1 hA1 hb (by omega) (v0 := 0) pk_us (by omega)) ?_
          rintro rr h' ⟨rfl, hf, hm, hA⟩
          have hst : stR (B b) (1024 * n + vr b (ct (B b) n), g, false) = insP (B b) (pos (B b) n) (1024 * n + vr b (0 / 2), g, false) := by unfold stR; simp only []; rw [show (1024 * n + vr b (ct (B b) n)) / 1024 = n by rw [hcte]; unfold vr; omega, if_neg (by rw [hh]; decide), if_neg (by omega), hcte]
          have hgg : gB (stR (B b) (1024 * n + vr b (ct (B b) n), g, false)) := ⟨stR_len hlen hS _, stR_S hS _, stR_V hS hV ⟨by simp only [hcte]; unfold vr; omega, by simp only [hcte]; unfold vr; omega, by simp only [hcte]; unfold vr; omega⟩⟩
          refine ⟨by rw [show ptR B (nI b) (nI n) = _ from onB_in hb hn _ _, if_neg (by rw [hfu]; decide), hcte], hf1.tr hf (fun _ z => z) (by simp), hm, ?_⟩
          rw [show ptB B (nI b) (nI n) g = _ from onB_in hb hn _ _, if_neg (by rw [hfu]; decide)]
          rw [hst] at hgg ⊢
          exact ⟨_, _, _, _, _, hA, isMc_ins hc0 hb hpl (by omega) (s1.nw (by omega) _) ((s2.nw (by omega) _).up (by omega) _) (s3.nw (by omega) _) (s4.nw (by omega) _) (by unfold vr; omega) hgg⟩
        · have hc3 := c2_ne_f (a := ((B b).length)) (b := 64) (by omega) (by omega) hc3
          have hfu : fuP (B b) n = true := by unfold fuP; rw [hh, hc3]; simp
          refine ar_go M_M_put 2 _ 60 _ [some (.ref 56), some (.int (nI b)), some (.int (nI n)), some (.int g), some (.int (-1))] _ [.int (-3)] rfl ?_
          exact ar_R M_M_put rfl rfl rfl rfl (⟨by rw [show ptR B (nI b) (nI n) = _ from onB_in hb hn _ _, if_pos hfu] <;> rfl, fr.rf _ _, h560, by rw [show ptB B (nI b) (nI n) g = _ from onB_in hb hn _ _, if_pos hfu]; exact hB0⟩)
    · have hc2 := bi_ne_f hc2
      refine ar_go M_M_put 1 _ 15 _ [some (.ref 56), some (.int v), some (.int w), some (.int g), none] _ [.int (-1)] rfl ?_
      exact ar_R M_M_put rfl rfl rfl rfl (⟨by rw [show ptR B v w = _ from onB_o2 hc2 _ _] <;> rfl, fr.rf _ _, h560, by rw [show ptB B v w g = B from onB_o2 hc2 _ _]; exact hB0⟩)
