/-! The reference: takeOver -/
def hld (l : Bk) (n : Nat) : Bool := hasAt l (pos l n) n
theorem hld_iff {l : Bk} (hS : bkS l) {n : Nat} : hld l n = true ↔ ∃ i, i < l.length ∧ wd l i / 1024 = n := by
  unfold hld
  constructor
  · intro h
    exact ⟨_, hasAt_iff.mp h⟩
  · rintro ⟨i, hi, he⟩
    have hp := pos_pl l n hS
    have : pos l n = i := by
      rcases Nat.lt_trichotomy (pos l n) i with c | c | c
      · have a := hp.2.2 (pos l n) (Nat.le_refl _) (by omega)
        have b := hS (pos l n) i c hi
        omega
      · exact c
      · have a := hp.2.1 i c
        omega
    rw [this]
    exact hasAt_iff.mpr ⟨hi, he⟩
theorem hld_st {l : Bk} (hS : bkS l) (e : Nat × Int32 × Bool) {n : Nat} (h : hld l n = true) : hld (stR l e) n = true := by
  rw [hld_iff (stR_S hS e)]
  obtain ⟨i, hi, he⟩ := (hld_iff hS).mp h
  have hp := pos_pl l (e.1 / 1024) hS
  unfold stR
  split
  next hh =>
    rw [hasAt_iff] at hh
    refine ⟨i, by rw [List.length_set]; exact hi, ?_⟩
    rw [set_wd hh.1]
    split
    · subst_vars; exact hh.2.symm
    · exact he
  next hh =>
    split
    · exact ⟨i, hi, he⟩
    · by_cases c : i < pos l (e.1 / 1024)
      · exact ⟨i, by rw [insP_len hp.1]; omega, by rw [insP_wd hp.1, if_pos c]; exact he⟩
      · exact ⟨i + 1, by rw [insP_len hp.1]; omega, by rw [insP_wd hp.1, if_neg (by omega), if_neg (by omega), Nat.add_sub_cancel]; exact he⟩
theorem st_len {l : Bk} (hS : bkS l) (e : Nat × Int32 × Bool) : (stR l e).length ≤ l.length + (if hld l (e.1 / 1024) = true then 0 else 1) := by
  have hp := pos_pl l (e.1 / 1024) hS
  unfold stR hld
  split
  next hh => rw [List.length_set]; omega
  next hh =>
    split
    · omega
    · rw [insP_len hp.1]; omega
theorem cntB_mono (P : Nat → Bool) {k n : Nat} (h : k ≤ n) : cntB P k ≤ cntB P n := by
  induction n with
  | zero => have : k = 0 := by omega
            subst this; exact Nat.le_refl _
  | succ n ih =>
    by_cases e : k = n + 1
    · subst e; exact Nat.le_refl _
    · have := ih (by omega)
      rw [cntB]
      omega
def okE (e : Nat × Int32 × Bool) : Prop := e.1 / 1024 < 10000 ∧ 2 ≤ e.1 % 1024 ∧ e.1 % 1024 < 1002
def okT (T : Tk) : Prop := ∀ k, k < T.length → tkr T k < 4 ∧ okE (ten T k)
def nvT (B : Nat → Bk) (T : Tk) (c k : Nat) : Bool := decide (tkr T k = c) && !hld (B c) ((ten T k).1 / 1024)
def ovT (B : Nat → Bk) (T : Tk) (c : Nat) : Bool := decide (64 < (B c).length + cntB (nvT B T c) T.length)
def tB (B : Nat → Bk) (T : Tk) : Nat → Nat → Bk
  | 0 => B
  | k + 1 => updB (tB B T k) (tkr T k) (stR (tB B T k (tkr T k)) (ten T k))
theorem tB_ok {B : Nat → Bk} {T : Tk} (hB : ∀ c, c < 4 → gB (B c)) (hT : okT T) : ∀ k, k ≤ T.length → ∀ c, c < 4 → gB (tB B T k c) ∧ (tB B T k c).length ≤ (B c).length + cntB (nvT B T c) k ∧ ∀ n, hld (B c) n = true → hld (tB B T k c) n = true
  | 0, _, c, hc => ⟨hB c hc, Nat.le_add_right _ _, fun _ h => h⟩
  | k + 1, hk, c, hc => by
    obtain ⟨⟨a1, a2, a3⟩, b, d⟩ := tB_ok hB hT k (by omega) c hc
    obtain ⟨t1, t2⟩ := hT k (by omega)
    rw [tB]
    by_cases e : c = tkr T k
    · rw [← e, updB_s]
      refine ⟨⟨stR_len a1 a2 _, stR_S a2 _, stR_V a2 a3 t2⟩, ?_, fun n h => hld_st a2 _ (d n h)⟩
      have s1 := st_len a2 (ten T k)
      rw [cntB]
      by_cases q : hld (tB B T k c) ((ten T k).1 / 1024) = true
      · rw [if_pos q] at s1
        omega
      · rw [if_neg q] at s1
        have : nvT B T c k = true := by
          unfold nvT
          rw [decide_eq_true e.symm, Bool.true_and, Bool.not_eq_true']
          cases z : hld (B c) ((ten T k).1 / 1024)
          · rfl
          · exact absurd (d _ z) q
        rw [if_pos this]
        omega
    · rw [updB_n _ e]
      refine ⟨⟨a1, a2, a3⟩, ?_, d⟩
      rw [cntB]
      omega
theorem tB_room {B : Nat → Bk} {T : Tk} (hB : ∀ c, c < 4 → gB (B c)) (hT : okT T) (ho : ∀ c, c < 4 → ovT B T c = false) {k : Nat} (hk : k < T.length) (hn : hld (tB B T k (tkr T k)) ((ten T k).1 / 1024) = false) : (tB B T k (tkr T k)).length < 64 := by
  obtain ⟨t1, t2⟩ := hT k hk
  obtain ⟨_, b, d⟩ := tB_ok hB hT k (by omega) (tkr T k) t1
  have o : ¬ 64 < (B (tkr T k)).length + cntB (nvT B T (tkr T k)) T.length := of_decide_eq_false (ho _ t1)
  have m := cntB_mono (nvT B T (tkr T k)) (show k + 1 ≤ T.length by omega)
  have : nvT B T (tkr T k) k = true := by
    unfold nvT
    rw [decide_eq_true rfl, Bool.true_and, Bool.not_eq_true']
    cases z : hld (B (tkr T k)) ((ten T k).1 / 1024)
    · rfl
    · rw [d _ z] at hn; exact absurd hn (by decide)
  rw [cntB, if_pos this] at m
  omega
theorem c_M_to_in (X : am_X) (d : Nat) (h : am_H) {B : Nat → Bk} {T : Tk} {s : Int64} {ud ld pr uD lD nd : Int32} (h56 : isM0 h s ud ld pr uD lD nd (nI T.length)) (hB : isMb h B) (hT : isT h T) (hok : okT T) {c : Nat} (hc4 : c < 4) {Q : Option Value → am_H → Prop} (K : ar Pg X (d + 1) n_M_takeOver 62 [some (.ref 56), some (.int (nI c)), some (.int (nI ((B c).length + cntB (nvT B T c) T.length))), some (.int (nI T.length))] [] h Q) : ∀ (n k : Nat), T.length - k < n → k ≤ T.length → ar Pg X (d + 1) n_M_takeOver 16 [some (.ref 56), some (.int (nI c)), some (.int (nI ((B c).length + cntB (nvT B T c) k))), some (.int (nI k))] [] h Q := by
  have hB0 := hB
  obtain ⟨sz, nu, ve, gr, dr, ⟨h57, h58, h59, h60, h61⟩, hc0⟩ := hB
  have h560 := h56
  unfold isM0 at h56
  obtain ⟨hTl, ta, tb, tc, td, te, ⟨h71, h72, h73, h74, h75⟩, hTc⟩ := hT
  have hlcc := (hc0 c hc4).2.1.1
  intro n
  induction n with
  | zero => intro k hk; omega
  | succ n ih =>
    intro k hk hkl
    have hcl := cntB_le (nvT B T c) k
    refine ar_go M_M_takeOver 2 _ 18 _ [some (.ref 56), some (.int (nI c)), some (.int (nI ((B c).length + cntB (nvT B T c) k))), some (.int (nI k))] _ [.ref 56, .int (nI k)] rfl ?_
    refine ar_get M_M_takeOver rfl rfl h56 rfl ?_
    refine ar_icmp M_M_takeOver rfl rfl (fun hc => ?_) (fun hc => ?_)
    · have hc := c2_ge_t (a := k) (b := (T.length)) (by omega) (by omega) hc
      have hk2 : k = T.length := by omega
      rw [hk2]
      exact K
    · have hc := c2_ge_f (a := k) (b := (T.length)) (by omega) (by omega) hc
      obtain ⟨t1, t2, t3, t4⟩ := hok k (by omega)
      obtain ⟨q1, q2, q3, q4, q5⟩ := hTc k (by omega)
      refine ar_go M_M_takeOver 2 _ 26 _ [some (.ref 56), some (.int (nI c)), some (.int (nI ((B c).length + cntB (nvT B T c) k))), some (.int (nI k))] _ [.ref 56, .int (nI ((B c).length + cntB (nvT B T c) k))] rfl ?_
      refine ar_get M_M_takeOver rfl rfl h56 rfl ?_
      refine ar_go M_M_takeOver 1 _ 30 _ [some (.ref 56), some (.int (nI c)), some (.int (nI ((B c).length + cntB (nvT B T c) k))), some (.int (nI k))] _ [.int (nI k), .ref 71, .int (nI ((B c).length + cntB (nvT B T c) k))] rfl ?_
      refine ar_iald M_M_takeOver rfl (by unfold am_x0; omega) h71 (vp_in_nI (by omega) (by decide)) ?_
      rw [nI_clamp (n := k) (by omega)]
      refine ar_top (w := .int (nI (tkr T k))) (congrArg Value.int q1) ?_
      refine ar_go M_M_takeOver 1 _ 32 _ [some (.ref 56), some (.int (nI c)), some (.int (nI ((B c).length + cntB (nvT B T c) k))), some (.int (nI k))] _ [.int (nI c), .int (nI (tkr T k)), .int (nI ((B c).length + cntB (nvT B T c) k))] rfl ?_
      refine ar_icmp M_M_takeOver rfl rfl (fun hc2 => ?_) (fun hc2 => ?_)
      · have hc2 := c2_ne_t (a := (tkr T k)) (b := c) (by omega) (by omega) hc2
        refine ar_go M_M_takeOver 2 _ 55 _ [some (.ref 56), some (.int (nI c)), some (.int (nI ((B c).length + cntB (nvT B T c) k))), some (.int (nI k))] _ [.int (nI ((B c).length + cntB (nvT B T c) k) + nI 0)] rfl ?_
        refine ar_top (w := .int (nI (((B c).length + cntB (nvT B T c) k) + 0))) (congrArg Value.int (nI_add ((B c).length + cntB (nvT B T c) k) 0)) ?_
        refine ar_go M_M_takeOver 1 _ 56 _ [some (.ref 56), some (.int (nI c)), some (.int (nI (((B c).length + cntB (nvT B T c) k) + 0))), some (.int (nI k))] _ [] rfl ?_
        refine ar_go M_M_takeOver 1 _ 59 _ [some (.ref 56), some (.int (nI c)), some (.int (nI (((B c).length + cntB (nvT B T c) k) + 0))), some (.int (nI k + Int32.ofInt 1))] _ [] rfl ?_
        rw [show nI k + Int32.ofInt 1 = nI (k + 1) from nI_add k 1]
        refine ar_go M_M_takeOver 1 _ 16 _ [some (.ref 56), some (.int (nI c)), some (.int (nI (((B c).length + cntB (nvT B T c) k) + 0))), some (.int (nI (k + 1)))] _ [] rfl ?_
        have hnx : cntB (nvT B T c) (k + 1) = cntB (nvT B T c) k + 0 := by rw [cntB, show nvT B T c k = false by unfold nvT; rw [decide_eq_false hc2, Bool.false_and]]; rfl
        rw [show (B c).length + cntB (nvT B T c) k + 0 = (B c).length + cntB (nvT B T c) (k + 1) by rw [hnx, Nat.add_assoc]]
        exact ih (k + 1) (by omega) (by omega)
      · have hc2 := c2_ne_f (a := (tkr T k)) (b := c) (by omega) (by omega) hc2
        refine ar_go M_M_takeOver 3 _ 38 _ [some (.ref 56), some (.int (nI c)), some (.int (nI ((B c).length + cntB (nvT B T c) k))), some (.int (nI k))] _ [.ref 56, .int (nI c), .ref 56, .int (nI ((B c).length + cntB (nvT B T c) k))] rfl ?_
        refine ar_get M_M_takeOver rfl rfl h56 rfl ?_
        refine ar_go M_M_takeOver 1 _ 42 _ [some (.ref 56), some (.int (nI c)), some (.int (nI ((B c).length + cntB (nvT B T c) k))), some (.int (nI k))] _ [.int (nI k), .ref 72, .int (nI c), .ref 56, .int (nI ((B c).length + cntB (nvT B T c) k))] rfl ?_
        refine ar_iald M_M_takeOver rfl (by unfold am_x0; omega) h72 (vp_in_nI (by omega) (by decide)) ?_
        rw [nI_clamp (n := k) (by omega)]
        refine ar_top (w := .int (nI ((ten T k).1 / 1024))) (congrArg Value.int q2) ?_
        refine ar_CV M_M_takeOver rfl rfl (Or.inl rfl) rfl rfl (Nat.le_of_ble_eq_true rfl) h56 M_M_find (Nat.le_of_ble_eq_true rfl) (c_M_find X d _ h560 hB0 hc4 (by omega)) (fun r1 h1 hq => ?_)
        obtain ⟨rfl, rfl⟩ := hq
        refine ⟨rfl, ?_⟩
        show ar Pg _ _ _ 46 [some (.ref 56), some (.int (nI c)), some (.int (nI ((B c).length + cntB (nvT B T c) k))), some (.int (nI k))] [.int (fnR (B c) c ((ten T k).1 / 1024)), .int (nI ((B c).length + cntB (nvT B T c) k))] _ _
        have hpl := (pos_pl (B c) ((ten T k).1 / 1024) (hc0 c hc4).2.1.2.1).1
        have hlc := (hc0 c hc4).2.1.1
        by_cases hh : hasAt (B c) (pos (B c) ((ten T k).1 / 1024)) ((ten T k).1 / 1024) = true
        · rw [fnR, if_pos hh]
          refine ar_if M_M_takeOver rfl rfl (fun _ => ?_) (fun z => absurd (of_decide_eq_false z) (fun z => z (nI_nn (by omega))))
          refine ar_go M_M_takeOver 2 _ 55 _ [some (.ref 56), some (.int (nI c)), some (.int (nI ((B c).length + cntB (nvT B T c) k))), some (.int (nI k))] _ [.int (nI ((B c).length + cntB (nvT B T c) k) + nI 0)] rfl ?_
          refine ar_top (w := .int (nI (((B c).length + cntB (nvT B T c) k) + 0))) (congrArg Value.int (nI_add ((B c).length + cntB (nvT B T c) k) 0)) ?_
          refine ar_go M_M_takeOver 1 _ 56 _ [some (.ref 56), some (.int (nI c)), some (.int (nI (((B c).length + cntB (nvT B T c) k) + 0))), some (.int (nI k))] _ [] rfl ?_
          refine ar_go M_M_takeOver 1 _ 59 _ [some (.ref 56), some (.int (nI c)), some (.int (nI (((B c).length + cntB (nvT B T c) k) + 0))), some (.int (nI k + Int32.ofInt 1))] _ [] rfl ?_
          rw [show nI k + Int32.ofInt 1 = nI (k + 1) from nI_add k 1]
          refine ar_go M_M_takeOver 1 _ 16 _ [some (.ref 56), some (.int (nI c)), some (.int (nI (((B c).length + cntB (nvT B T c) k) + 0))), some (.int (nI (k + 1)))] _ [] rfl ?_
          have hnx : cntB (nvT B T c) (k + 1) = cntB (nvT B T c) k + 0 := by rw [cntB, show nvT B T c k = false by unfold nvT hld; rw [hh]; simp]; rfl
          rw [show (B c).length + cntB (nvT B T c) k + 0 = (B c).length + cntB (nvT B T c) (k + 1) by rw [hnx, Nat.add_assoc]]
          exact ih (k + 1) (by omega) (by omega)
        · rw [fnR, if_neg hh]
          refine ar_if M_M_takeOver rfl rfl (fun z => absurd z (by decide)) (fun _ => ?_)
          refine ar_go M_M_takeOver 3 _ 55 _ [some (.ref 56), some (.int (nI c)), some (.int (nI ((B c).length + cntB (nvT B T c) k))), some (.int (nI k))] _ [.int (nI ((B c).length + cntB (nvT B T c) k) + nI 1)] rfl ?_
          refine ar_top (w := .int (nI (((B c).length + cntB (nvT B T c) k) + 1))) (congrArg Value.int (nI_add ((B c).length + cntB (nvT B T c) k) 1)) ?_
          refine ar_go M_M_takeOver 1 _ 56 _ [some (.ref 56), some (.int (nI c)), some (.int (nI (((B c).length + cntB (nvT B T c) k) + 1))), some (.int (nI k))] _ [] rfl ?_
          refine ar_go M_M_takeOver 1 _ 59 _ [some (.ref 56), some (.int (nI c)), some (.int (nI (((B c).length + cntB (nvT B T c) k) + 1))), some (.int (nI k + Int32.ofInt 1))] _ [] rfl ?_
          rw [show nI k + Int32.ofInt 1 = nI (k + 1) from nI_add k 1]
          refine ar_go M_M_takeOver 1 _ 16 _ [some (.ref 56), some (.int (nI c)), some (.int (nI (((B c).length + cntB (nvT B T c) k) + 1))), some (.int (nI (k + 1)))] _ [] rfl ?_
          have hnx : cntB (nvT B T c) (k + 1) = cntB (nvT B T c) k + 1 := by rw [cntB, show nvT B T c k = true by unfold nvT hld; rw [decide_eq_true hc2, Bool.true_and, Bool.not_eq_true']; simpa using hh]; rfl
          rw [show (B c).length + cntB (nvT B T c) k + 1 = (B c).length + cntB (nvT B T c) (k + 1) by rw [hnx, Nat.add_assoc]]
          exact ih (k + 1) (by omega) (by omega)
theorem c_M_to_out (X : am_X) (d : Nat) (h : am_H) {B : Nat → Bk} {T : Tk} {s : Int64} {ud ld pr uD lD nd : Int32} (h56 : isM0 h s ud ld pr uD lD nd (nI T.length)) (hB : isMb h B) (hT : isT h T) (hok : okT T) {Q : Option Value → am_H → Prop} (K : (∀ c, c < 4 → ovT B T c = false) → ∀ x2 x3 : Option Value, ar Pg X (d + 1) n_M_takeOver 77 [some (.ref 56), some (.int (nI 4)), x2, x3] [] h Q) (F : (∃ c, c < 4 ∧ ovT B T c = true) → Q (some (.int (-3))) h) : ∀ (n c : Nat) (x2 x3 : Option Value), c + n = 4 → (∀ c2, c2 < c → ovT B T c2 = false) → ar Pg X (d + 1) n_M_takeOver 2 [some (.ref 56), some (.int (nI c)), x2, x3] [] h Q := by
  have hB0 := hB
  obtain ⟨sz, nu, ve, gr, dr, ⟨h57, h58, h59, h60, h61⟩, hc0⟩ := hB
  have h560 := h56
  unfold isM0 at h56
  have hT0 := hT
  obtain ⟨hTl, ta, tb, tc, td, te, ⟨h71, h72, h73, h74, h75⟩, hTc⟩ := hT
  intro n
  induction n with
  | zero =>
    intro c x2 x3 hn ho
    have hc4 : c = 4 := by omega
    subst hc4
    refine ar_go M_M_takeOver 2 _ 4 _ [some (.ref 56), some (.int (nI 4)), x2, x3] _ [.int (nI 4), .int (nI 4)] rfl ?_
    exact ar_icmp M_M_takeOver rfl rfl (fun _ => K ho x2 x3) (fun z => absurd z (by decide))
  | succ n ih =>
    intro c x2 x3 hn ho
    refine ar_go M_M_takeOver 2 _ 4 _ [some (.ref 56), some (.int (nI c)), x2, x3] _ [.int (nI 4), .int (nI c)] rfl ?_
    refine ar_icmp M_M_takeOver rfl rfl (fun hc => ?_) (fun hc => ?_)
    · have hc := c2_ge_t (a := c) (b := 4) (by omega) (by omega) hc
      omega
    · have hc := c2_ge_f (a := c) (b := 4) (by omega) (by omega) hc
      have hlc := (hc0 c (by omega)).2.1.1
      have hcl := cntB_le (nvT B T c) T.length
      refine ar_go M_M_takeOver 1 _ 8 _ [some (.ref 56), some (.int (nI c)), x2, x3] _ [.ref 56] rfl ?_
      refine ar_get M_M_takeOver rfl rfl h56 rfl ?_
      refine ar_go M_M_takeOver 1 _ 12 _ [some (.ref 56), some (.int (nI c)), x2, x3] _ [.int (nI c), .ref 57] rfl ?_
      refine ar_iald M_M_takeOver rfl (by unfold am_x0; omega) h57 (vp_in_nI (by omega) (by decide)) ?_
      rw [nI_clamp (n := c) (by omega)]
      refine ar_top (w := .int (nI ((B c).length))) (congrArg Value.int ((hc0 c (by omega)).1)) ?_
      refine ar_go M_M_takeOver 3 _ 16 _ [some (.ref 56), some (.int (nI c)), some (.int (nI ((B c).length))), some (.int (nI 0))] _ [] rfl ?_
      refine c_M_to_in X d h h560 hB0 hT0 hok (c := c) (by omega) ?_ (T.length + 1) 0 (by omega) (by omega)
      refine ar_go M_M_takeOver 2 _ 65 _ [some (.ref 56), some (.int (nI c)), some (.int (nI ((B c).length + cntB (nvT B T c) T.length))), some (.int (nI T.length))] _ [.int (nI 64), .int (nI ((B c).length + cntB (nvT B T c) T.length))] rfl ?_
      refine ar_icmp M_M_takeOver rfl rfl (fun hc2 => ?_) (fun hc2 => ?_)
      · have hc2 := c2_le_t (a := ((B c).length + cntB (nvT B T c) T.length)) (b := 64) (by omega) (by omega) hc2
        refine ar_go M_M_takeOver 1 _ 74 _ [some (.ref 56), some (.int (nI c + Int32.ofInt 1)), some (.int (nI ((B c).length + cntB (nvT B T c) T.length))), some (.int (nI T.length))] _ [] rfl ?_
        rw [show nI c + Int32.ofInt 1 = nI (c + 1) from nI_add c 1]
        refine ar_go M_M_takeOver 1 _ 2 _ [some (.ref 56), some (.int (nI (c + 1))), some (.int (nI ((B c).length + cntB (nvT B T c) T.length))), some (.int (nI T.length))] _ [] rfl ?_
        exact ih (c + 1) _ _ (by omega) (fun c2 h2 => by
          by_cases e : c2 = c
          · subst e; exact decide_eq_false (by omega)
          · exact ho c2 (by omega))
      · have hc2 := c2_le_f (a := ((B c).length + cntB (nvT B T c) T.length)) (b := 64) (by omega) (by omega) hc2
        refine ar_go M_M_takeOver 1 _ 70 _ [some (.ref 56), some (.int (nI c)), some (.int (nI ((B c).length + cntB (nvT B T c) T.length))), some (.int (nI T.length))] _ [.int (-3)] rfl ?_
        exact ar_R M_M_takeOver rfl rfl rfl rfl (F ⟨c, by omega, decide_eq_true hc2⟩)
