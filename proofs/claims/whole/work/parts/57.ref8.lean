/-! The reference: listed -/
def tkL (t : Nat) (l : Bk) : Tk := l.map (fun e => (t, e))
def nwL (B : Nat → Bk) (t b i : Nat) : Tk := tkL t (fil (knB (B b) (B t)) (B b) i)
theorem nwL_len (B : Nat → Bk) (t b i : Nat) : (nwL B t b i).length ≤ i := by
  unfold nwL tkL
  rw [List.length_map]
  exact fil_len _ _ _
theorem nwL_of (T : Tk) (B : Nat → Bk) (t b i : Nat) : ofT (T ++ nwL B t b i) B t b i = T ++ nwL B t b (i + 1) := by
  unfold ofT nwL tkL
  rw [List.append_assoc, fil, List.map_append]
  by_cases h : knB (B b) (B t) i = true
  · rw [if_pos h, if_pos h]; rfl
  · rw [if_neg h, if_neg h]; rfl
theorem okT_app {T : Tk} (h : okT T) {e : Nat × Nat × Int32 × Bool} (h1 : e.1 < 4) (h2 : okE e.2) : okT (T ++ [e]) := by
  intro k hk
  rw [List.length_append, List.length_singleton] at hk
  by_cases q : k = T.length
  · subst q
    obtain ⟨a, b⟩ := tk_last T e
    rw [a, b]
    exact ⟨h1, h2⟩
  · obtain ⟨a, b⟩ := tk_app (T := T) (e := e) (i := k) (by omega)
    rw [a, b]
    exact h k (by omega)
theorem okT_of {T : Tk} {B : Nat → Bk} (h : okT T) {t b i : Nat} (ht : t < 4) (hV : bkV (B b)) (hi : i < (B b).length) : okT (ofT T B t b i) := by
  unfold ofT
  split
  · exact okT_app h ht (hV i hi)
  · rw [List.append_nil]; exact h
theorem okT_nw {T : Tk} {B : Nat → Bk} (h : okT T) {t b : Nat} (ht : t < 4) (hV : bkV (B b)) : ∀ i, i ≤ (B b).length → okT (T ++ nwL B t b i)
  | 0, _ => by
    rw [show nwL B t b 0 = [] from rfl, List.append_nil]
    exact h
  | i + 1, hi => by
    rw [← nwL_of]
    exact okT_of (okT_nw h ht hV i (by omega)) ht hV (by omega)
theorem c_M_li_1 (X : am_X) (d : Nat) (h : am_H) {B : Nat → Bk} {T : Tk} {s : Int64} {ud ld pr uD lD nd : Int32} {b t : Nat} (hb : b < 4) (ht : t < 4) (hB : isMb h B) (hTl : T.length ≤ 64) {Q : Option Value → am_H → Prop} (K : ∀ h1 : am_H, isT h1 (T ++ nwL B t b (B b).length) → isM0 h1 s ud ld pr uD lD nd (nI (T ++ nwL B t b (B b).length).length) → fr [56, 71, 72, 73, 74, 75] h h1 → ar Pg X (d + 1 + 1) n_M_listed 65 [some (.ref 56), some (.int (nI b)), some (.int (nI t)), some (.int (nI (64 * b + (B b).length))), none, none] [] h1 Q) : ∀ (n i : Nat) (h1 : am_H), (B b).length - i < n → i ≤ (B b).length → isT h1 (T ++ nwL B t b i) → isM0 h1 s ud ld pr uD lD nd (nI (T ++ nwL B t b i).length) → fr [56, 71, 72, 73, 74, 75] h h1 → ar Pg X (d + 1 + 1) n_M_listed 37 [some (.ref 56), some (.int (nI b)), some (.int (nI t)), some (.int (nI (64 * b + i))), none, none] [] h1 Q := by
  intro n
  induction n with
  | zero => intro i h1 hi; omega
  | succ n ih =>
    intro i h1 hi hil hTi h56 hF
    have hB1 := hB.mv hF (fun k _ _ => by simp; omega)
    have hB2 := hB1
    obtain ⟨sz, nu, ve, gr, dr, ⟨h57, h58, h59, h60, h61⟩, hc0⟩ := hB2
    have h560 := h56
    unfold isM0 at h56
    obtain ⟨hsz, ⟨hlen, hS, hV⟩, hfa⟩ := hc0 b hb
    have hnl := nwL_len B t b i
    refine ar_go M_M_listed 4 _ 42 _ [some (.ref 56), some (.int (nI b)), some (.int (nI t)), some (.int (nI (64 * b + i))), none, none] _ [.int (nI 64 * nI b), .int (nI (64 * b + i))] rfl ?_
    refine ar_top (w := .int (nI (64 * b))) (congrArg Value.int (pk_mul 64 b)) ?_
    refine ar_go M_M_listed 1 _ 43 _ [some (.ref 56), some (.int (nI b)), some (.int (nI t)), some (.int (nI (64 * b + i))), none, none] _ [.ref 56, .int (nI (64 * b)), .int (nI (64 * b + i))] rfl ?_
    refine ar_get M_M_listed rfl rfl h56 rfl ?_
    refine ar_go M_M_listed 1 _ 47 _ [some (.ref 56), some (.int (nI b)), some (.int (nI t)), some (.int (nI (64 * b + i))), none, none] _ [.int (nI b), .ref 57, .int (nI (64 * b)), .int (nI (64 * b + i))] rfl ?_
    refine ar_iald M_M_listed rfl (by unfold am_x0; omega) h57 (vp_in_nI (by omega) (by decide)) ?_
    rw [nI_clamp (n := b) (by omega)]
    refine ar_top (w := .int (nI ((B b).length))) (congrArg Value.int hsz) ?_
    refine ar_go M_M_listed 1 _ 49 _ [some (.ref 56), some (.int (nI b)), some (.int (nI t)), some (.int (nI (64 * b + i))), none, none] _ [.int (nI (64 * b) + nI ((B b).length)), .int (nI (64 * b + i))] rfl ?_
    refine ar_top (w := .int (nI ((64 * b) + ((B b).length)))) (congrArg Value.int (nI_add (64 * b) ((B b).length))) ?_
    refine ar_icmp M_M_listed rfl rfl (fun hc => ?_) (fun hc => ?_)
    · have hc := c2_ge_t (a := (64 * b + i)) (b := ((64 * b) + ((B b).length))) (by omega) (by omega) hc
      have hi2 : i = (B b).length := by omega
      rw [hi2] at h560 hTi ⊢
      exact K h1 hTi h560 hF
    · have hc := c2_ge_f (a := (64 * b + i)) (b := ((64 * b) + ((B b).length))) (by omega) (by omega) hc
      refine ar_go M_M_listed 3 _ 55 _ [some (.ref 56), some (.int (nI b)), some (.int (nI t)), some (.int (nI (64 * b + i))), none, none] _ [.int (nI (64 * b + i)), .int (nI t), .ref 56] rfl ?_
      refine ar_CV M_M_listed rfl rfl (Or.inl rfl) rfl rfl (Nat.le_of_ble_eq_true rfl) h56 M_M_offer (Nat.le_of_ble_eq_true rfl) (c_M_offer X d _ h560 hB1 hTi ht hb (i := i) (by omega) (by rw [List.length_append]; omega)) (fun r1 h2 hq => ?_)
      obtain ⟨⟨v1, rfl⟩, hf, hm, hT2⟩ := hq
      refine ⟨hf.1, ?_⟩
      show ar Pg _ _ _ 58 [some (.ref 56), some (.int (nI b)), some (.int (nI t)), some (.int (nI (64 * b + i))), none, none] [.int v1] _ _
      refine ar_go M_M_listed 1 _ 59 _ [some (.ref 56), some (.int (nI b)), some (.int (nI t)), some (.int (nI (64 * b + i))), none, none] _ [] rfl ?_
      refine ar_go M_M_listed 1 _ 62 _ [some (.ref 56), some (.int (nI b)), some (.int (nI t)), some (.int (nI (64 * b + i) + Int32.ofInt 1)), none, none] _ [] rfl ?_
      rw [show nI (64 * b + i) + Int32.ofInt 1 = nI ((64 * b + i) + 1) from nI_add (64 * b + i) 1]
      refine ar_go M_M_listed 1 _ 37 _ [some (.ref 56), some (.int (nI b)), some (.int (nI t)), some (.int (nI ((64 * b + i) + 1))), none, none] _ [] rfl ?_
      rw [nwL_of] at hm hT2
      exact ih (i + 1) h2 (by omega) (by omega) hT2 hm (hF.tr hf (fun _ z => z) (fun _ z => z))
theorem c_M_li_2 (X : am_X) (d : Nat) (h : am_H) {B : Nat → Bk} {T : Tk} {s : Int64} {ud ld pr uD lD nd : Int32} {b t : Nat} (hb : b < 4) (ht : t < 4) (hB : isMb h B) (hTl : T.length ≤ 64) {Q : Option Value → am_H → Prop} (K : ∀ h1 : am_H, isT h1 (T ++ nwL B t b (B b).length) → isM0 h1 s ud ld pr uD lD nd (nI (T ++ nwL B t b (B b).length).length) → fr [56, 71, 72, 73, 74, 75] h h1 → ar Pg X (d + 1 + 1) n_M_listed 98 [some (.ref 56), some (.int (nI t)), some (.int (nI b)), some (.int (nI (64 * b + (B b).length))), none, none] [] h1 Q) : ∀ (n i : Nat) (h1 : am_H), (B b).length - i < n → i ≤ (B b).length → isT h1 (T ++ nwL B t b i) → isM0 h1 s ud ld pr uD lD nd (nI (T ++ nwL B t b i).length) → fr [56, 71, 72, 73, 74, 75] h h1 → ar Pg X (d + 1 + 1) n_M_listed 70 [some (.ref 56), some (.int (nI t)), some (.int (nI b)), some (.int (nI (64 * b + i))), none, none] [] h1 Q := by
  intro n
  induction n with
  | zero => intro i h1 hi; omega
  | succ n ih =>
    intro i h1 hi hil hTi h56 hF
    have hB1 := hB.mv hF (fun k _ _ => by simp; omega)
    have hB2 := hB1
    obtain ⟨sz, nu, ve, gr, dr, ⟨h57, h58, h59, h60, h61⟩, hc0⟩ := hB2
    have h560 := h56
    unfold isM0 at h56
    obtain ⟨hsz, ⟨hlen, hS, hV⟩, hfa⟩ := hc0 b hb
    have hnl := nwL_len B t b i
    refine ar_go M_M_listed 4 _ 75 _ [some (.ref 56), some (.int (nI t)), some (.int (nI b)), some (.int (nI (64 * b + i))), none, none] _ [.int (nI 64 * nI b), .int (nI (64 * b + i))] rfl ?_
    refine ar_top (w := .int (nI (64 * b))) (congrArg Value.int (pk_mul 64 b)) ?_
    refine ar_go M_M_listed 1 _ 76 _ [some (.ref 56), some (.int (nI t)), some (.int (nI b)), some (.int (nI (64 * b + i))), none, none] _ [.ref 56, .int (nI (64 * b)), .int (nI (64 * b + i))] rfl ?_
    refine ar_get M_M_listed rfl rfl h56 rfl ?_
    refine ar_go M_M_listed 1 _ 80 _ [some (.ref 56), some (.int (nI t)), some (.int (nI b)), some (.int (nI (64 * b + i))), none, none] _ [.int (nI b), .ref 57, .int (nI (64 * b)), .int (nI (64 * b + i))] rfl ?_
    refine ar_iald M_M_listed rfl (by unfold am_x0; omega) h57 (vp_in_nI (by omega) (by decide)) ?_
    rw [nI_clamp (n := b) (by omega)]
    refine ar_top (w := .int (nI ((B b).length))) (congrArg Value.int hsz) ?_
    refine ar_go M_M_listed 1 _ 82 _ [some (.ref 56), some (.int (nI t)), some (.int (nI b)), some (.int (nI (64 * b + i))), none, none] _ [.int (nI (64 * b) + nI ((B b).length)), .int (nI (64 * b + i))] rfl ?_
    refine ar_top (w := .int (nI ((64 * b) + ((B b).length)))) (congrArg Value.int (nI_add (64 * b) ((B b).length))) ?_
    refine ar_icmp M_M_listed rfl rfl (fun hc => ?_) (fun hc => ?_)
    · have hc := c2_ge_t (a := (64 * b + i)) (b := ((64 * b) + ((B b).length))) (by omega) (by omega) hc
      have hi2 : i = (B b).length := by omega
      rw [hi2] at h560 hTi ⊢
      exact K h1 hTi h560 hF
    · have hc := c2_ge_f (a := (64 * b + i)) (b := ((64 * b) + ((B b).length))) (by omega) (by omega) hc
      refine ar_go M_M_listed 3 _ 88 _ [some (.ref 56), some (.int (nI t)), some (.int (nI b)), some (.int (nI (64 * b + i))), none, none] _ [.int (nI (64 * b + i)), .int (nI t), .ref 56] rfl ?_
      refine ar_CV M_M_listed rfl rfl (Or.inl rfl) rfl rfl (Nat.le_of_ble_eq_true rfl) h56 M_M_offer (Nat.le_of_ble_eq_true rfl) (c_M_offer X d _ h560 hB1 hTi ht hb (i := i) (by omega) (by rw [List.length_append]; omega)) (fun r1 h2 hq => ?_)
      obtain ⟨⟨v1, rfl⟩, hf, hm, hT2⟩ := hq
      refine ⟨hf.1, ?_⟩
      show ar Pg _ _ _ 91 [some (.ref 56), some (.int (nI t)), some (.int (nI b)), some (.int (nI (64 * b + i))), none, none] [.int v1] _ _
      refine ar_go M_M_listed 1 _ 92 _ [some (.ref 56), some (.int (nI t)), some (.int (nI b)), some (.int (nI (64 * b + i))), none, none] _ [] rfl ?_
      refine ar_go M_M_listed 1 _ 95 _ [some (.ref 56), some (.int (nI t)), some (.int (nI b)), some (.int (nI (64 * b + i) + Int32.ofInt 1)), none, none] _ [] rfl ?_
      rw [show nI (64 * b + i) + Int32.ofInt 1 = nI ((64 * b + i) + 1) from nI_add (64 * b + i) 1]
      refine ar_go M_M_listed 1 _ 70 _ [some (.ref 56), some (.int (nI t)), some (.int (nI b)), some (.int (nI ((64 * b + i) + 1))), none, none] _ [] rfl ?_
      rw [nwL_of] at hm hT2
      exact ih (i + 1) h2 (by omega) (by omega) hT2 hm (hF.tr hf (fun _ z => z) (fun _ z => z))
def noOv (B : Nat → Bk) (T : Tk) : Bool := !(ovT B T 0 || ovT B T 1 || ovT B T 2 || ovT B T 3)
theorem noOv_iff {B : Nat → Bk} {T : Tk} : noOv B T = true ↔ ∀ c, c < 4 → ovT B T c = false := by
  unfold noOv
  rw [Bool.not_eq_true', Bool.or_eq_false_iff, Bool.or_eq_false_iff, Bool.or_eq_false_iff]
  constructor
  · rintro ⟨⟨⟨h0, h1⟩, h2⟩, h3⟩ c hc
    match c, hc with
    | 0, _ => exact h0
    | 1, _ => exact h1
    | 2, _ => exact h2
    | 3, _ => exact h3
  · intro h
    exact ⟨⟨⟨h 0 (by decide), h 1 (by decide)⟩, h 2 (by decide)⟩, h 3 (by decide)⟩
def lsT (B : Nat → Bk) (a b : Nat) : Tk := nwL B b a (B a).length ++ nwL B a b (B b).length
theorem c_M_listed (X : am_X) (d : Nat) (h : am_H) {B : Nat → Bk} {T : Tk} {s : Int64} {ud ld pr uD lD nd tn : Int32} (h56 : isM0 h s ud ld pr uD lD nd tn) (hB : isMb h B) (hT : isT h T) {a b : Nat} (ha : a < 4) (hb : b < 4) : ar Pg X (d + 1 + 1) n_M_listed 0 [some (.ref 56), some (.int (nI a)), some (.int (nI b)), none, none, none] [] h (fun rr h' => rr = some (.int (if noOv B (lsT B a b) = true then nI (lsT B a b).length else -3)) ∧ fr ([56, 71, 72, 73, 74, 75] ++ [57, 58, 59, 60, 61]) h h' ∧ isM0 h' (s + lN (2 * ((B a).length + (B b).length))) ud ld pr uD lD nd (nI (lsT B a b).length) ∧ isMb h' (if noOv B (lsT B a b) = true then tB B (lsT B a b) (lsT B a b).length else B) ∧ isT h' (lsT B a b)) := by
  have hB0 := hB
  obtain ⟨sz, nu, ve, gr, dr, ⟨h57, h58, h59, h60, h61⟩, hc0⟩ := hB
  have h560 := h56
  unfold isM0 at h56
  obtain ⟨hsa, ⟨hla, hSa, hVa⟩, hfaa⟩ := hc0 a ha
  obtain ⟨hsb, ⟨hlb, hSb, hVb⟩, hfab⟩ := hc0 b hb
  refine ar_go M_M_listed 2 _ 2 _ [some (.ref 56), some (.int (nI a)), some (.int (nI b)), none, none, none] _ [.ref 56, .ref 56] rfl ?_
  refine ar_get M_M_listed rfl rfl h56 rfl ?_
  refine ar_go M_M_listed 2 _ 9 _ [some (.ref 56), some (.int (nI a)), some (.int (nI b)), none, none, none] _ [.ref 56, .long (lN 2), .long s, .ref 56] rfl ?_
  refine ar_get M_M_listed rfl rfl h56 rfl ?_
  refine ar_go M_M_listed 1 _ 13 _ [some (.ref 56), some (.int (nI a)), some (.int (nI b)), none, none, none] _ [.int (nI a), .ref 57, .long (lN 2), .long s, .ref 56] rfl ?_
  refine ar_iald M_M_listed rfl (by unfold am_x0; omega) h57 (vp_in_nI (by omega) (by decide)) ?_
  rw [nI_clamp (n := a) (by omega)]
  refine ar_top (w := .int (nI ((B a).length))) (congrArg Value.int hsa) ?_
  refine ar_go M_M_listed 1 _ 15 _ [some (.ref 56), some (.int (nI a)), some (.int (nI b)), none, none, none] _ [.ref 56, .int (nI ((B a).length)), .long (lN 2), .long s, .ref 56] rfl ?_
  refine ar_get M_M_listed rfl rfl h56 rfl ?_
  refine ar_go M_M_listed 1 _ 19 _ [some (.ref 56), some (.int (nI a)), some (.int (nI b)), none, none, none] _ [.int (nI b), .ref 57, .int (nI ((B a).length)), .long (lN 2), .long s, .ref 56] rfl ?_
  refine ar_iald M_M_listed rfl (by unfold am_x0; omega) h57 (vp_in_nI (by omega) (by decide)) ?_
  rw [nI_clamp (n := b) (by omega)]
  refine ar_top (w := .int (nI ((B b).length))) (congrArg Value.int hsb) ?_
  refine ar_go M_M_listed 1 _ 21 _ [some (.ref 56), some (.int (nI a)), some (.int (nI b)), none, none, none] _ [.int (nI ((B a).length) + nI ((B b).length)), .long (lN 2), .long s, .ref 56] rfl ?_
  refine ar_top (w := .int (nI (((B a).length) + ((B b).length)))) (congrArg Value.int (nI_add ((B a).length) ((B b).length))) ?_
  refine ar_go M_M_listed 1 _ 22 _ [some (.ref 56), some (.int (nI a)), some (.int (nI b)), none, none, none] _ [.long ((nI (((B a).length) + ((B b).length))).toInt64), .long (lN 2), .long s, .ref 56] rfl ?_
  refine ar_top (w := .long (lN (((B a).length) + ((B b).length)))) (congrArg Value.long (nI_l (by omega))) ?_
  refine ar_go M_M_listed 1 _ 23 _ [some (.ref 56), some (.int (nI a)), some (.int (nI b)), none, none, none] _ [.long (lN 2 * lN (((B a).length) + ((B b).length))), .long s, .ref 56] rfl ?_
  refine ar_top (w := .long (lN (2 * (((B a).length) + ((B b).length))))) (congrArg Value.long (lN_mul 2 (((B a).length) + ((B b).length)))) ?_
  refine ar_go M_M_listed 1 _ 24 _ [some (.ref 56), some (.int (nI a)), some (.int (nI b)), none, none, none] _ [.long (s + lN (2 * (((B a).length) + ((B b).length)))), .ref 56] rfl ?_
  refine ar_put M_M_listed rfl rfl h56 (Nat.le_of_ble_eq_true rfl) rfl (Nat.le_of_ble_eq_true rfl) (fun h2 hf he => ?_)
  have h57 := hf.at h57 (by simp only [List.mem_cons, List.not_mem_nil, or_false]; omega)
  have h58 := hf.at h58 (by simp only [List.mem_cons, List.not_mem_nil, or_false]; omega)
  have h59 := hf.at h59 (by simp only [List.mem_cons, List.not_mem_nil, or_false]; omega)
  have h60 := hf.at h60 (by simp only [List.mem_cons, List.not_mem_nil, or_false]; omega)
  have h61 := hf.at h61 (by simp only [List.mem_cons, List.not_mem_nil, or_false]; omega)
  have h56 : h2[56]? = some (.inr (5, [.ref 57, .ref 58, .ref 59, .ref 60, .ref 61, .long (s + lN (2 * (((B a).length) + ((B b).length)))), .ref 62, .ref 63, .int ud, .int ld, .int pr, .ref 64, .ref 65, .ref 66, .ref 67, .int uD, .int lD, .ref 68, .ref 69, .ref 70, .int nd, .int tn, .ref 71, .ref 72, .ref 73, .ref 74, .ref 75])) := he
  have k1 := hf
  refine ar_go M_M_listed 2 _ 29 _ [some (.ref 56), some (.int (nI a)), some (.int (nI b)), none, none, none] _ [.int (nI 0), .ref 56] rfl ?_
  refine ar_put M_M_listed rfl rfl h56 (Nat.le_of_ble_eq_true rfl) rfl (Nat.le_of_ble_eq_true rfl) (fun h3 hf he => ?_)
  have h57 := hf.at h57 (by simp only [List.mem_cons, List.not_mem_nil, or_false]; omega)
  have h58 := hf.at h58 (by simp only [List.mem_cons, List.not_mem_nil, or_false]; omega)
  have h59 := hf.at h59 (by simp only [List.mem_cons, List.not_mem_nil, or_false]; omega)
  have h60 := hf.at h60 (by simp only [List.mem_cons, List.not_mem_nil, or_false]; omega)
  have h61 := hf.at h61 (by simp only [List.mem_cons, List.not_mem_nil, or_false]; omega)
  have h56 : h3[56]? = some (.inr (5, [.ref 57, .ref 58, .ref 59, .ref 60, .ref 61, .long (s + lN (2 * (((B a).length) + ((B b).length)))), .ref 62, .ref 63, .int ud, .int ld, .int pr, .ref 64, .ref 65, .ref 66, .ref 67, .int uD, .int lD, .ref 68, .ref 69, .ref 70, .int nd, .int (nI 0), .ref 71, .ref 72, .ref 73, .ref 74, .ref 75])) := he
  have k2 := hf
  have hF3 : fr [56, 71, 72, 73, 74, 75] h h3 := (k1.tr k2 (l := [56]) (by simp) (by simp)).mono (by simp)
  have hB3 := hB0.mv hF3 (fun k _ _ => by simp; omega)
  have hT3 : isT h3 [] := by obtain ⟨_, ta, tb, tc, td, te, ⟨z1, z2, z3, z4, z5⟩, _⟩ := hT; exact ⟨by simp, ta, tb, tc, td, te, ⟨k2.at (k1.at z1 (by simp)) (by simp), k2.at (k1.at z2 (by simp)) (by simp), k2.at (k1.at z3 (by simp)) (by simp), k2.at (k1.at z4 (by simp)) (by simp), k2.at (k1.at z5 (by simp)) (by simp)⟩, fun i hi => absurd hi (Nat.not_lt_zero _)⟩
  refine ar_go M_M_listed 3 _ 36 _ [some (.ref 56), some (.int (nI a)), some (.int (nI b)), none, none, none] _ [.int (nI 64 * nI a)] rfl ?_
  refine ar_top (w := .int (nI (64 * a))) (congrArg Value.int (pk_mul 64 a)) ?_
  refine ar_go M_M_listed 1 _ 37 _ [some (.ref 56), some (.int (nI a)), some (.int (nI b)), some (.int (nI (64 * a))), none, none] _ [] rfl ?_
  have hn1 := nwL_len B b a (B a).length
  have hn2 := nwL_len B a b (B b).length
  refine c_M_li_1 X d h3 (T := []) (b := a) (t := b) ha hb hB3 (by simp) ?_ ((B a).length + 1) 0 h3 (by omega) (by omega) hT3 h56 (fr.rf _ _)
  clear h56 hT3
  intro h4 hT4 h56 hF4
  rw [List.nil_append] at hT4 h56
  have h560 := h56
  have hB4 := hB3.mv hF4 (fun k _ _ => by simp; omega)
  refine ar_go M_M_listed 3 _ 69 _ [some (.ref 56), some (.int (nI a)), some (.int (nI b)), some (.int (nI (64 * a + (B a).length))), none, none] _ [.int (nI 64 * nI b)] rfl ?_
  refine ar_top (w := .int (nI (64 * b))) (congrArg Value.int (pk_mul 64 b)) ?_
  refine ar_go M_M_listed 1 _ 70 _ [some (.ref 56), some (.int (nI a)), some (.int (nI b)), some (.int (nI (64 * b))), none, none] _ [] rfl ?_
  refine c_M_li_2 X d h4 (T := nwL B b a (B a).length) (b := b) (t := a) hb ha hB4 (by omega) ?_ ((B b).length + 1) 0 h4 (by omega) (by omega) (by rw [show nwL B a b 0 = [] from rfl, List.append_nil]; exact hT4) (by rw [show nwL B a b 0 = [] from rfl, List.append_nil]; exact h56) (fr.rf _ _)
  clear h56 h560 hT4
  intro h5 hT5 h56 hF5
  have h560 := h56
  have hB5 := hB4.mv hF5 (fun k _ _ => by simp; omega)
  change isT h5 (lsT B a b) at hT5
  change isM0 h5 _ _ _ _ _ _ _ (nI (lsT B a b).length) at h560
  unfold isM0 at h56
  have hokT : okT (lsT B a b) := okT_nw (by rw [← List.nil_append (nwL B b a (B a).length)]; exact okT_nw (fun k hk => absurd hk (Nat.not_lt_zero _)) hb hVa _ (Nat.le_refl _)) ha hVb _ (Nat.le_refl _)
  refine ar_go M_M_listed 1 _ 99 _ [some (.ref 56), some (.int (nI a)), some (.int (nI b)), some (.int (nI (64 * b + (B b).length))), none, none] _ [.ref 56] rfl ?_
  refine ar_get M_M_listed rfl rfl h56 rfl ?_
  refine ar_go M_M_listed 2 _ 104 _ [some (.ref 56), some (.int (nI a)), some (.int (nI b)), some (.long (s + lN (2 * ((B a).length + (B b).length)))), none, none] _ [.ref 56] rfl ?_
  refine ar_CV M_M_listed rfl rfl (Or.inl rfl) rfl rfl (Nat.le_of_ble_eq_true rfl) h56 M_M_takeOver (Nat.le_of_ble_eq_true rfl) (c_M_takeOver X d _ h560 hB5 hT5 hokT) (fun r1 h6 hq => ?_)
  obtain ⟨rfl, hf6, hy, hn⟩ := hq
  refine ⟨hf6.1, ?_⟩
  generalize hgt : (if ∀ c, c < 4 → ovT B (lsT B a b) c = false then nI (lsT B a b).length else -3) = gt
  show ar Pg _ _ _ 107 [some (.ref 56), some (.int (nI a)), some (.int (nI b)), some (.long (s + lN (2 * ((B a).length + (B b).length)))), none, none] [.int gt] _ _
  have hF6 : fr ([56, 71, 72, 73, 74, 75] ++ [57, 58, 59, 60, 61]) h h6 := (hF3.tr (hF4.tr hF5 (l := [56, 71, 72, 73, 74, 75]) (fun _ z => z) (fun _ z => z)) (l := [56, 71, 72, 73, 74, 75] ++ [57, 58, 59, 60, 61]) (by simp) (by simp)).tr hf6 (fun _ z => z) (by simp)
  by_cases hov : ∀ c, c < 4 → ovT B (lsT B a b) c = false
  · clear h56 h560
    obtain ⟨h56, hB6⟩ := hy hov
    unfold isM0 at h56
    refine ar_go M_M_listed 3 _ 111 _ [some (.ref 56), some (.int (nI a)), some (.int (nI b)), some (.long (s + lN (2 * ((B a).length + (B b).length)))), none, some (.int gt)] _ [.long (s + lN (2 * ((B a).length + (B b).length))), .ref 56] rfl ?_
    refine ar_put M_M_listed rfl rfl h56 (Nat.le_of_ble_eq_true rfl) rfl (Nat.le_of_ble_eq_true rfl) (fun h7 hf he => ?_)
    have h56 : h7[56]? = some (.inr (5, [.ref 57, .ref 58, .ref 59, .ref 60, .ref 61, .long (s + lN (2 * ((B a).length + (B b).length))), .ref 62, .ref 63, .int ud, .int ld, .int pr, .ref 64, .ref 65, .ref 66, .ref 67, .int uD, .int lD, .ref 68, .ref 69, .ref 70, .int nd, .int (nI ((lsT B a b).length)), .ref 71, .ref 72, .ref 73, .ref 74, .ref 75])) := he
    refine ar_go M_M_listed 1 _ 116 _ [some (.ref 56), some (.int (nI a)), some (.int (nI b)), some (.long (s + lN (2 * ((B a).length + (B b).length)))), none, some (.int gt)] _ [.int gt] rfl ?_
    exact ar_R M_M_listed rfl rfl rfl rfl ⟨by rw [← hgt, if_pos hov, if_pos (noOv_iff.mpr hov)], hF6.tr hf (fun _ z => z) (by simp), h56, by rw [if_pos (noOv_iff.mpr hov)]; exact hB6.mv hf (fun k _ _ => by simp; omega), (hT5.mv hf6 (fun k _ _ => by simp; omega)).mv hf (fun k _ _ => by simp; omega)⟩
  · clear h56 h560
    obtain ⟨h56, hB6⟩ := hn hov
    unfold isM0 at h56
    refine ar_go M_M_listed 3 _ 111 _ [some (.ref 56), some (.int (nI a)), some (.int (nI b)), some (.long (s + lN (2 * ((B a).length + (B b).length)))), none, some (.int gt)] _ [.long (s + lN (2 * ((B a).length + (B b).length))), .ref 56] rfl ?_
    refine ar_put M_M_listed rfl rfl h56 (Nat.le_of_ble_eq_true rfl) rfl (Nat.le_of_ble_eq_true rfl) (fun h7 hf he => ?_)
    have h56 : h7[56]? = some (.inr (5, [.ref 57, .ref 58, .ref 59, .ref 60, .ref 61, .long (s + lN (2 * ((B a).length + (B b).length))), .ref 62, .ref 63, .int ud, .int ld, .int pr, .ref 64, .ref 65, .ref 66, .ref 67, .int uD, .int lD, .ref 68, .ref 69, .ref 70, .int nd, .int (nI ((lsT B a b).length)), .ref 71, .ref 72, .ref 73, .ref 74, .ref 75])) := he
    refine ar_go M_M_listed 1 _ 116 _ [some (.ref 56), some (.int (nI a)), some (.int (nI b)), some (.long (s + lN (2 * ((B a).length + (B b).length)))), none, some (.int gt)] _ [.int gt] rfl ?_
    exact ar_R M_M_listed rfl rfl rfl rfl ⟨by rw [← hgt, if_neg hov, if_neg (fun z => hov (noOv_iff.mp z))], hF6.tr hf (fun _ z => z) (by simp), h56, by rw [if_neg (fun z => hov (noOv_iff.mp z))]; exact hB6.mv hf (fun k _ _ => by simp; omega), (hT5.mv hf6 (fun k _ _ => by simp; omega)).mv hf (fun k _ _ => by simp; omega)⟩
