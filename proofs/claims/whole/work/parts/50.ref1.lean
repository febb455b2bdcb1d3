/-! The reference: banks -/
def isM0 (h : am_H) (s : Int64) (ud ld pr uD lD nd tn : Int32) : Prop := h[56]? = some (.inr (5, [.ref 57, .ref 58, .ref 59, .ref 60, .ref 61, .long s, .ref 62, .ref 63, .int ud, .int ld, .int pr, .ref 64, .ref 65, .ref 66, .ref 67, .int uD, .int lD, .ref 68, .ref 69, .ref 70, .int nd, .int tn, .ref 71, .ref 72, .ref 73, .ref 74, .ref 75]))
/-- the reference's five arrays -/
def isMa (h : am_H) (sz nu ve gr dr : Nat → Int32) : Prop := h[57]? = some (.inl (0, 4, .inl sz)) ∧ h[58]? = some (.inl (0, 256, .inl nu)) ∧ h[59]? = some (.inl (0, 256, .inl ve)) ∧ h[60]? = some (.inl (0, 256, .inl gr)) ∧ h[61]? = some (.inl (2, 256, .inl dr))
/-- they hold the banks -/
def isMc (B : Nat → Bk) (sz nu ve gr dr : Nat → Int32) : Prop := ∀ b, b < 4 → sz b = nI (B b).length ∧ gB (B b) ∧ ∀ i, i < (B b).length → nu (64 * b + i) = nI (wd (B b) i / 1024) ∧ ve (64 * b + i) = nI (wd (B b) i % 1024) ∧ gr (64 * b + i) = gd (B b) i ∧ dr (64 * b + i) = bi (dd (B b) i)
def isMb (h : am_H) (B : Nat → Bk) : Prop := ∃ sz nu ve gr dr, isMa h sz nu ve gr dr ∧ isMc B sz nu ve gr dr
theorem isMa.mv {h h1 : am_H} {sz nu ve gr dr : Nat → Int32} {l : List Nat} (H : isMa h sz nu ve gr dr) (hf : fr l h h1) (hl : ∀ k, 57 ≤ k → k < 62 → k ∉ l) : isMa h1 sz nu ve gr dr :=
  ⟨hf.at H.1 (hl _ (by omega) (by omega)), hf.at H.2.1 (hl _ (by omega) (by omega)), hf.at H.2.2.1 (hl _ (by omega) (by omega)), hf.at H.2.2.2.1 (hl _ (by omega) (by omega)), hf.at H.2.2.2.2 (hl _ (by omega) (by omega))⟩
theorem isMb.mv {h h1 : am_H} {B : Nat → Bk} {l : List Nat} (H : isMb h B) (hf : fr l h h1) (hl : ∀ k, 57 ≤ k → k < 62 → k ∉ l) : isMb h1 B := by
  obtain ⟨sz, nu, ve, gr, dr, a, b⟩ := H
  exact ⟨sz, nu, ve, gr, dr, a.mv hf hl, b⟩
def fnI (l : Bk) (b n : Nat) : Nat → Int32
  | 0 => -1
  | i + 1 => if wd l i / 1024 = n then nI (64 * b + i) else fnI l b n i
def fnR (l : Bk) (b n : Nat) : Int32 := if hasAt l (pos l n) n = true then nI (64 * b + pos l n) else -1
theorem fnI_eq {l : Bk} (hS : bkS l) (b n : Nat) : ∀ i, i ≤ l.length → fnI l b n i = if pos l n < i ∧ wd l (pos l n) / 1024 = n then nI (64 * b + pos l n) else -1
  | 0, _ => by rw [fnI, if_neg (fun z => Nat.not_lt_zero _ z.1)]
  | i + 1, hi => by
    have hp := pos_pl l n hS
    rw [fnI, fnI_eq hS b n i (by omega)]
    by_cases h : wd l i / 1024 = n
    · have hpi : pos l n = i := by
        rcases Nat.lt_trichotomy (pos l n) i with c | c | c
        · have a := hp.2.2 (pos l n) (Nat.le_refl _) (by omega)
          have b := hS (pos l n) i c (by omega)
          omega
        · exact c
        · have a := hp.2.1 i c
          omega
      rw [if_pos h, hpi, if_pos ⟨by omega, h⟩]
    · rw [if_neg h]
      by_cases c : pos l n < i ∧ wd l (pos l n) / 1024 = n
      · rw [if_pos c, if_pos ⟨by omega, c.2⟩]
      · rw [if_neg c, if_neg (fun z => c ⟨by
          have z1 := z.1
          by_cases e : pos l n = i
          · rw [e] at z; exact absurd z.2 h
          · omega, z.2⟩)]
theorem fnI_R {l : Bk} (hS : bkS l) (b n : Nat) : fnI l b n l.length = fnR l b n := by
  rw [fnI_eq hS b n _ (Nat.le_refl _), fnR]
  by_cases h : hasAt l (pos l n) n = true
  · rw [if_pos h, if_pos (hasAt_iff.mp h)]
  · rw [if_neg h, if_neg (fun z => h (hasAt_iff.mpr z))]
theorem c_M_fn_loop (X : am_X) (d : Nat) (h : am_H) {B : Nat → Bk} {s : Int64} {ud ld pr uD lD nd tn : Int32} (h56 : isM0 h s ud ld pr uD lD nd tn) (hB : isMb h B) {b n : Nat} (hb : b < 4) (hn : n < 2 ^ 31) : ∀ (k i : Nat), (B b).length - i < k → i ≤ (B b).length → ar Pg X d n_M_find 8 [some (.ref 56), some (.int (nI b)), some (.int (nI n)), some (.int (fnI (B b) b n i)), some (.int (nI (64 * b + i)))] [] h (fun rr h' => rr = some (.int (fnR (B b) b n)) ∧ h' = h) := by
  obtain ⟨sz, nu, ve, gr, dr, ⟨h57, h58, h59, h60, h61⟩, hc0⟩ := hB
  unfold isM0 at h56
  have hcb := hc0 b hb
  have hlb := hcb.2.1.1
  intro k
  induction k with
  | zero => intro i hk; omega
  | succ k ih =>
    intro i hk hil
    refine ar_go M_M_find 4 _ 14 _ [some (.ref 56), some (.int (nI b)), some (.int (nI n)), some (.int (fnI (B b) b n i)), some (.int (nI (64 * b + i)))] _ [.int (nI 64 * nI b), .int (nI (64 * b + i))] rfl ?_
    refine ar_top (w := .int (nI (64 * b))) (congrArg Value.int (pk_mul 64 b)) ?_
    refine ar_go M_M_find 1 _ 15 _ [some (.ref 56), some (.int (nI b)), some (.int (nI n)), some (.int (fnI (B b) b n i)), some (.int (nI (64 * b + i)))] _ [.ref 56, .int (nI (64 * b)), .int (nI (64 * b + i))] rfl ?_
    refine ar_get M_M_find rfl rfl h56 rfl ?_
    refine ar_go M_M_find 1 _ 19 _ [some (.ref 56), some (.int (nI b)), some (.int (nI n)), some (.int (fnI (B b) b n i)), some (.int (nI (64 * b + i)))] _ [.int (nI b), .ref 57, .int (nI (64 * b)), .int (nI (64 * b + i))] rfl ?_
    refine ar_iald M_M_find rfl (by unfold am_x0; omega) h57 (vp_in_nI (by omega) (by decide)) ?_
    rw [nI_clamp (n := b) (by omega)]
    refine ar_top (w := .int (nI ((B b).length))) (congrArg Value.int hcb.1) ?_
    refine ar_go M_M_find 1 _ 21 _ [some (.ref 56), some (.int (nI b)), some (.int (nI n)), some (.int (fnI (B b) b n i)), some (.int (nI (64 * b + i)))] _ [.int (nI (64 * b) + nI ((B b).length)), .int (nI (64 * b + i))] rfl ?_
    refine ar_top (w := .int (nI ((64 * b) + ((B b).length)))) (congrArg Value.int (nI_add (64 * b) ((B b).length))) ?_
    refine ar_icmp M_M_find rfl rfl (fun hc => ?_) (fun hc => ?_)
    · have hc := c2_ge_t (a := (64 * b + i)) (b := ((64 * b) + ((B b).length))) (by omega) (by omega) hc
      have hi2 : i = (B b).length := by omega
      refine ar_go M_M_find 1 _ 49 _ [some (.ref 56), some (.int (nI b)), some (.int (nI n)), some (.int (fnI (B b) b n i)), some (.int (nI (64 * b + i)))] _ [.int (fnI (B b) b n i)] rfl ?_
      exact ar_R M_M_find rfl rfl rfl rfl (⟨by rw [hi2, fnI_R hcb.2.1.2.1], rfl⟩)
    · have hc := c2_ge_f (a := (64 * b + i)) (b := ((64 * b) + ((B b).length))) (by omega) (by omega) hc
      have hwi := hcb.2.1.2.2.W i (by omega)
      refine ar_go M_M_find 1 _ 25 _ [some (.ref 56), some (.int (nI b)), some (.int (nI n)), some (.int (fnI (B b) b n i)), some (.int (nI (64 * b + i)))] _ [.ref 56] rfl ?_
      refine ar_get M_M_find rfl rfl h56 rfl ?_
      refine ar_go M_M_find 1 _ 30 _ [some (.ref 56), some (.int (nI b)), some (.int (nI n)), some (.int (fnI (B b) b n i)), some (.int (nI (64 * b + i)))] _ [.int (nI (64 * b + i)), .ref 58] rfl ?_
      refine ar_iald M_M_find rfl (by unfold am_x0; omega) h58 (vp_in_nI (by omega) (by decide)) ?_
      rw [nI_clamp (n := (64 * b + i)) (by omega)]
      refine ar_top (w := .int (nI (wd (B b) i / 1024))) (congrArg Value.int ((hcb.2.2 i (by omega)).1)) ?_
      refine ar_go M_M_find 1 _ 32 _ [some (.ref 56), some (.int (nI b)), some (.int (nI n)), some (.int (fnI (B b) b n i)), some (.int (nI (64 * b + i)))] _ [.int (nI n), .int (nI (wd (B b) i / 1024))] rfl ?_
      refine ar_icmp M_M_find rfl rfl (fun hc2 => ?_) (fun hc2 => ?_)
      · have hc2 := c2_ne_t (a := (wd (B b) i / 1024)) (b := n) (by omega) (by omega) hc2
        refine ar_go M_M_find 2 _ 42 _ [some (.ref 56), some (.int (nI b)), some (.int (nI n)), some (.int (fnI (B b) b n i)), some (.int (nI (64 * b + i)))] _ [] rfl ?_
        refine ar_go M_M_find 1 _ 45 _ [some (.ref 56), some (.int (nI b)), some (.int (nI n)), some (.int (fnI (B b) b n i)), some (.int (nI (64 * b + i) + Int32.ofInt 1))] _ [] rfl ?_
        rw [show nI (64 * b + i) + Int32.ofInt 1 = nI ((64 * b + i) + 1) from nI_add (64 * b + i) 1]
        refine ar_go M_M_find 1 _ 8 _ [some (.ref 56), some (.int (nI b)), some (.int (nI n)), some (.int (fnI (B b) b n i)), some (.int (nI ((64 * b + i) + 1)))] _ [] rfl ?_
        have hq : fnI (B b) b n i = fnI (B b) b n (i + 1) := by rw [fnI, if_neg hc2]
        rw [hq]
        exact ih (i + 1) (by omega) (by omega)
      · have hc2 := c2_ne_f (a := (wd (B b) i / 1024)) (b := n) (by omega) (by omega) hc2
        refine ar_go M_M_find 3 _ 42 _ [some (.ref 56), some (.int (nI b)), some (.int (nI n)), some (.int (nI (64 * b + i))), some (.int (nI (64 * b + i)))] _ [] rfl ?_
        refine ar_go M_M_find 1 _ 45 _ [some (.ref 56), some (.int (nI b)), some (.int (nI n)), some (.int (nI (64 * b + i))), some (.int (nI (64 * b + i) + Int32.ofInt 1))] _ [] rfl ?_
        rw [show nI (64 * b + i) + Int32.ofInt 1 = nI ((64 * b + i) + 1) from nI_add (64 * b + i) 1]
        refine ar_go M_M_find 1 _ 8 _ [some (.ref 56), some (.int (nI b)), some (.int (nI n)), some (.int (nI (64 * b + i))), some (.int (nI ((64 * b + i) + 1)))] _ [] rfl ?_
        have hq : nI (64 * b + i) = fnI (B b) b n (i + 1) := by rw [fnI, if_pos hc2]
        rw [hq]
        exact ih (i + 1) (by omega) (by omega)
theorem c_M_find (X : am_X) (d : Nat) (h : am_H) {B : Nat → Bk} {s : Int64} {ud ld pr uD lD nd tn : Int32} (h56 : isM0 h s ud ld pr uD lD nd tn) (hB : isMb h B) {b n : Nat} (hb : b < 4) (hn : n < 2 ^ 31) : ar Pg X d n_M_find 0 [some (.ref 56), some (.int (nI b)), some (.int (nI n)), none, none] [] h (fun rr h' => rr = some (.int (fnR (B b) b n)) ∧ h' = h) := by
  refine ar_go M_M_find 5 _ 6 _ [some (.ref 56), some (.int (nI b)), some (.int (nI n)), some (.int (-1)), none] _ [.int (nI 64 * nI b)] rfl ?_
  refine ar_top (w := .int (nI (64 * b))) (congrArg Value.int (pk_mul 64 b)) ?_
  refine ar_go M_M_find 1 _ 8 _ [some (.ref 56), some (.int (nI b)), some (.int (nI n)), some (.int (-1)), some (.int (nI (64 * b)))] _ [] rfl ?_
  exact c_M_fn_loop X d h h56 hB hb hn ((B b).length + 1) 0 (by omega) (by omega)
/-- from i to n the places have moved up by one -/
def shg (f f0 : Nat → Int32) (i n : Nat) : Prop := shf f f0 i n ∧ ∀ j, n < j → f j = f0 j
theorem shg.step {f f0 : Nat → Int32} {i n : Nat} (h : shg f f0 (i + 1) n) (hi : i + 1 ≤ n) : shg (upd f (i + 1) (f i)) f0 i n :=
  ⟨h.1.step hi, fun j hj => by rw [pk_un (by omega)]; exact h.2 j hj⟩
theorem shg.rf (f : Nat → Int32) (n : Nat) : shg f f n n := ⟨⟨fun _ _ => rfl, fun j h1 h2 => by omega⟩, fun _ _ => rfl⟩
theorem nI_pr1 (b q : Nat) : nI (64 * b + (q + 1)) - nI 1 = nI (64 * b + q) := by
  rw [← Nat.add_assoc]
  exact nI_pred (64 * b + q)
theorem c_M_in_loop (X : am_X) (d : Nat) (h : am_H) {B : Nat → Bk} {s : Int64} {ud ld pr uD lD nd tn : Int32} {sz nu0 ve0 gr0 dr0 : Nat → Int32} (hc0 : isMc B sz nu0 ve0 gr0 dr0) {b n : Nat} (hb : b < 4) (hn : n < 2 ^ 31) (hlen : (B b).length < 64) (hno : hasAt (B b) (pos (B b) n) n = false) {Q : Option Value → am_H → Prop}
    (K : ∀ (h1 : am_H) (nu ve gr dr : Nat → Int32), shg nu nu0 (64 * b + pos (B b) n) (64 * b + (B b).length) → shg ve ve0 (64 * b + pos (B b) n) (64 * b + (B b).length) → shg gr gr0 (64 * b + pos (B b) n) (64 * b + (B b).length) → shg dr dr0 (64 * b + pos (B b) n) (64 * b + (B b).length) → True → isMa h1 sz nu ve gr dr → isM0 h1 s ud ld pr uD lD nd tn → fr [58, 59, 60, 61] h h1 → ar Pg X d n_M_insert 94 [some (.ref 56), some (.int (nI b)), some (.int (nI n)), some (.int (nI (64 * b + pos (B b) n)))] [] h1 Q) :
    ∀ (k q : Nat) (h1 : am_H) (nu ve gr dr : Nat → Int32), q ≤ k → q ≤ (B b).length → pos (B b) n ≤ q → shg nu nu0 (64 * b + q) (64 * b + (B b).length) → shg ve ve0 (64 * b + q) (64 * b + (B b).length) → shg gr gr0 (64 * b + q) (64 * b + (B b).length) → shg dr dr0 (64 * b + q) (64 * b + (B b).length) → isMa h1 sz nu ve gr dr → isM0 h1 s ud ld pr uD lD nd tn → fr [58, 59, 60, 61] h h1 → ar Pg X d n_M_insert 12 [some (.ref 56), some (.int (nI b)), some (.int (nI n)), some (.int (nI (64 * b + q)))] [] h1 Q := by
  have hpl := pos_pl (B b) n (hc0 b hb).2.1.2.1
  have hlow : ∀ q, n < wd (B b) q / 1024 → q < (B b).length → pos (B b) n ≤ q := fun q h1 h2 => by
    rcases Nat.lt_or_ge q (pos (B b) n) with c | c
    · have := hpl.2.1 q c
      omega
    · exact c
  have hstop : ∀ q, wd (B b) q / 1024 ≤ n → q < (B b).length → pos (B b) n ≤ q + 1 → pos (B b) n = q + 1 := fun q h1 h2 h3 => by
    rcases Nat.lt_or_ge q (pos (B b) n) with c | c
    · omega
    · have a := hpl.2.2 q c h2
      have e : wd (B b) q / 1024 = n := by omega
      by_cases e2 : pos (B b) n = q
      · rw [e2] at hno
        rw [hasAt_iff.mpr ⟨h2, e⟩] at hno
        exact absurd hno (by decide)
      · have a2 := hpl.2.2 (pos (B b) n) (Nat.le_refl _) (by omega)
        have a3 := (hc0 b hb).2.1.2.1 (pos (B b) n) q (by omega) h2
        omega
  intro k
  induction k with
  | zero =>
    intro q h1 nu ve gr dr hk hql hpq s1 s2 s3 s4 hA h56 hF
    have hq0 : q = 0 := by omega
    subst hq0
    have hqp : pos (B b) n = 0 := by omega
    rw [hqp] at K
    refine ar_go M_M_insert 4 _ 17 _ [some (.ref 56), some (.int (nI b)), some (.int (nI n)), some (.int (nI (64 * b + 0)))] _ [.int (nI 64 * nI b), .int (nI (64 * b + 0))] rfl ?_
    refine ar_top (w := .int (nI (64 * b))) (congrArg Value.int (pk_mul 64 b)) ?_
    refine ar_icmp M_M_insert rfl rfl (fun _ => K h1 nu ve gr dr s1 s2 s3 s4 trivial hA h56 hF) (fun z => ?_)
    have z := c2_le_f (a := 64 * b + 0) (b := 64 * b) (by omega) (by omega) z
    omega
  | succ k ih =>
    intro q h1 nu ve gr dr hk hql hpq s1 s2 s3 s4 hA h56 hF
    unfold isM0 at h56
    obtain ⟨h57, h58, h59, h60, h61⟩ := hA
    refine ar_go M_M_insert 4 _ 17 _ [some (.ref 56), some (.int (nI b)), some (.int (nI n)), some (.int (nI (64 * b + q)))] _ [.int (nI 64 * nI b), .int (nI (64 * b + q))] rfl ?_
    refine ar_top (w := .int (nI (64 * b))) (congrArg Value.int (pk_mul 64 b)) ?_
    refine ar_icmp M_M_insert rfl rfl (fun hc => ?_) (fun hc => ?_)
    · have hc := c2_le_t (a := (64 * b + q)) (b := (64 * b)) (by omega) (by omega) hc
      have hq0 : q = 0 := by omega
      have hqp : pos (B b) n = q := by omega
      rw [hqp] at K
      exact K h1 nu ve gr dr s1 s2 s3 s4 trivial ⟨h57, h58, h59, h60, h61⟩ h56 hF
    · have hc := c2_le_f (a := (64 * b + q)) (b := (64 * b)) (by omega) (by omega) hc
      obtain ⟨q, rfl⟩ : ∃ q2, q = q2 + 1 := ⟨q - 1, by omega⟩
      refine ar_go M_M_insert 1 _ 21 _ [some (.ref 56), some (.int (nI b)), some (.int (nI n)), some (.int (nI (64 * b + (q + 1))))] _ [.ref 56] rfl ?_
      refine ar_get M_M_insert rfl rfl h56 rfl ?_
      refine ar_go M_M_insert 3 _ 27 _ [some (.ref 56), some (.int (nI b)), some (.int (nI n)), some (.int (nI (64 * b + (q + 1))))] _ [.int (nI (64 * b + (q + 1)) - nI 1), .ref 58] rfl ?_
      refine ar_top (w := .int (nI (64 * b + q))) (congrArg Value.int (nI_pr1 b q)) ?_
      have hwq := (hc0 b hb).2.1.2.2.W q (by omega)
      refine ar_iald M_M_insert rfl (by unfold am_x0; omega) h58 (vp_in_nI (by omega) (by decide)) ?_
      rw [nI_clamp (n := (64 * b + q)) (by omega)]
      refine ar_top (w := .int (nI (wd (B b) q / 1024))) (congrArg Value.int ((s1.1.1 (64 * b + q) (by omega)).trans ((hc0 b hb).2.2 q (by omega)).1)) ?_
      refine ar_go M_M_insert 1 _ 29 _ [some (.ref 56), some (.int (nI b)), some (.int (nI n)), some (.int (nI (64 * b + (q + 1))))] _ [.int (nI n), .int (nI (wd (B b) q / 1024))] rfl ?_
      refine ar_icmp M_M_insert rfl rfl (fun hc2 => ?_) (fun hc2 => ?_)
      · have hc2 := c2_le_t (a := (wd (B b) q / 1024)) (b := n) (by omega) (by omega) hc2
        have hqp : pos (B b) n = q + 1 := hstop q hc2 (by omega) hpq
        rw [hqp] at K
        exact K h1 nu ve gr dr s1 s2 s3 s4 trivial ⟨h57, h58, h59, h60, h61⟩ h56 hF
      · have hc2 := c2_le_f (a := (wd (B b) q / 1024)) (b := n) (by omega) (by omega) hc2
        refine ar_go M_M_insert 1 _ 33 _ [some (.ref 56), some (.int (nI b)), some (.int (nI n)), some (.int (nI (64 * b + (q + 1))))] _ [.ref 56] rfl ?_
        refine ar_get M_M_insert rfl rfl h56 rfl ?_
        refine ar_go M_M_insert 2 _ 38 _ [some (.ref 56), some (.int (nI b)), some (.int (nI n)), some (.int (nI (64 * b + (q + 1))))] _ [.ref 56, .int (nI (64 * b + (q + 1))), .ref 58] rfl ?_
        refine ar_get M_M_insert rfl rfl h56 rfl ?_
        refine ar_go M_M_insert 3 _ 44 _ [some (.ref 56), some (.int (nI b)), some (.int (nI n)), some (.int (nI (64 * b + (q + 1))))] _ [.int (nI (64 * b + (q + 1)) - nI 1), .ref 58, .int (nI (64 * b + (q + 1))), .ref 58] rfl ?_
        refine ar_top (w := .int (nI (64 * b + q))) (congrArg Value.int (nI_pr1 b q)) ?_
        refine ar_iald M_M_insert rfl (by unfold am_x0; omega) h58 (vp_in_nI (by omega) (by decide)) ?_
        rw [nI_clamp (n := (64 * b + q)) (by omega)]
        refine ar_iast M_M_insert rfl h58 (vp_in_nI (by omega) (by decide)) (fun h2 hf he => ?_)
        rw [nI_clamp (n := (64 * b + (q + 1))) (by omega)] at he
        have h56 := hf.at h56 (by simp only [List.mem_cons, List.not_mem_nil, or_false]; omega)
        have h57 := hf.at h57 (by simp only [List.mem_cons, List.not_mem_nil, or_false]; omega)
        have h59 := hf.at h59 (by simp only [List.mem_cons, List.not_mem_nil, or_false]; omega)
        have h60 := hf.at h60 (by simp only [List.mem_cons, List.not_mem_nil, or_false]; omega)
        have h61 := hf.at h61 (by simp only [List.mem_cons, List.not_mem_nil, or_false]; omega)
        have h58 : h2[58]? = some (.inl (0, 256, .inl (upd nu (64 * b + (q + 1)) (nu (64 * b + q))))) := he
        have k1 := hf
        refine ar_go M_M_insert 1 _ 47 _ [some (.ref 56), some (.int (nI b)), some (.int (nI n)), some (.int (nI (64 * b + (q + 1))))] _ [.ref 56] rfl ?_
        refine ar_get M_M_insert rfl rfl h56 rfl ?_
        refine ar_go M_M_insert 2 _ 52 _ [some (.ref 56), some (.int (nI b)), some (.int (nI n)), some (.int (nI (64 * b + (q + 1))))] _ [.ref 56, .int (nI (64 * b + (q + 1))), .ref 59] rfl ?_
        refine ar_get M_M_insert rfl rfl h56 rfl ?_
        refine ar_go M_M_insert 3 _ 58 _ [some (.ref 56), some (.int (nI b)), some (.int (nI n)), some (.int (nI (64 * b + (q + 1))))] _ [.int (nI (64 * b + (q + 1)) - nI 1), .ref 59, .int (nI (64 * b + (q + 1))), .ref 59] rfl ?_
        refine ar_top (w := .int (nI (64 * b + q))) (congrArg Value.int (nI_pr1 b q)) ?_
        refine ar_iald M_M_insert rfl (by unfold am_x0; omega) h59 (vp_in_nI (by omega) (by decide)) ?_
        rw [nI_clamp (n := (64 * b + q)) (by omega)]
        refine ar_iast M_M_insert rfl h59 (vp_in_nI (by omega) (by decide)) (fun h3 hf he => ?_)
        rw [nI_clamp (n := (64 * b + (q + 1))) (by omega)] at he
        have h56 := hf.at h56 (by simp only [List.mem_cons, List.not_mem_nil, or_false]; omega)
        have h57 := hf.at h57 (by simp only [List.mem_cons, List.not_mem_nil, or_false]; omega)
        have h58 := hf.at h58 (by simp only [List.mem_cons, List.not_mem_nil, or_false]; omega)
        have h60 := hf.at h60 (by simp only [List.mem_cons, List.not_mem_nil, or_false]; omega)
        have h61 := hf.at h61 (by simp only [List.mem_cons, List.not_mem_nil, or_false]; omega)
        have h59 : h3[59]? = some (.inl (0, 256, .inl (upd ve (64 * b + (q + 1)) (ve (64 * b + q))))) := he
        have k2 := hf
        refine ar_go M_M_insert 1 _ 61 _ [some (.ref 56), some (.int (nI b)), some (.int (nI n)), some (.int (nI (64 * b + (q + 1))))] _ [.ref 56] rfl ?_
        refine ar_get M_M_insert rfl rfl h56 rfl ?_
        refine ar_go M_M_insert 2 _ 66 _ [some (.ref 56), some (.int (nI b)), some (.int (nI n)), some (.int (nI (64 * b + (q + 1))))] _ [.ref 56, .int (nI (64 * b + (q + 1))), .ref 60] rfl ?_
        refine ar_get M_M_insert rfl rfl h56 rfl ?_
        refine ar_go M_M_insert 3 _ 72 _ [some (.ref 56), some (.int (nI b)), some (.int (nI n)), some (.int (nI (64 * b + (q + 1))))] _ [.int (nI (64 * b + (q + 1)) - nI 1), .ref 60, .int (nI (64 * b + (q + 1))), .ref 60] rfl ?_
        refine ar_top (w := .int (nI (64 * b + q))) (congrArg Value.int (nI_pr1 b q)) ?_
        refine ar_iald M_M_insert rfl (by unfold am_x0; omega) h60 (vp_in_nI (by omega) (by decide)) ?_
        rw [nI_clamp (n := (64 * b + q)) (by omega)]
        refine ar_iast M_M_insert rfl h60 (vp_in_nI (by omega) (by decide)) (fun h4 hf he => ?_)
        rw [nI_clamp (n := (64 * b + (q + 1))) (by omega)] at he
        have h56 := hf.at h56 (by simp only [List.mem_cons, List.not_mem_nil, or_false]; omega)
        have h57 := hf.at h57 (by simp only [List.mem_cons, List.not_mem_nil, or_false]; omega)
        have h58 := hf.at h58 (by simp only [List.mem_cons, List.not_mem_nil, or_false]; omega)
        have h59 := hf.at h59 (by simp only [List.mem_cons, List.not_mem_nil, or_false]; omega)
        have h61 := hf.at h61 (by simp only [List.mem_cons, List.not_mem_nil, or_false]; omega)
        have h60 : h4[60]? = some (.inl (0, 256, .inl (upd gr (64 * b + (q + 1)) (gr (64 * b + q))))) := he
        have k3 := hf
        refine ar_go M_M_insert 1 _ 75 _ [some (.ref 56), some (.int (nI b)), some (.int (nI n)), some (.int (nI (64 * b + (q + 1))))] _ [.ref 56] rfl ?_
        refine ar_get M_M_insert rfl rfl h56 rfl ?_
        refine ar_go M_M_insert 2 _ 80 _ [some (.ref 56), some (.int (nI b)), some (.int (nI n)), some (.int (nI (64 * b + (q + 1))))] _ [.ref 56, .int (nI (64 * b + (q + 1))), .ref 61] rfl ?_
        refine ar_get M_M_insert rfl rfl h56 rfl ?_
        refine ar_go M_M_insert 3 _ 86 _ [some (.ref 56), some (.int (nI b)), some (.int (nI n)), some (.int (nI (64 * b + (q + 1))))] _ [.int (nI (64 * b + (q + 1)) - nI 1), .ref 61, .int (nI (64 * b + (q + 1))), .ref 61] rfl ?_
        refine ar_top (w := .int (nI (64 * b + q))) (congrArg Value.int (nI_pr1 b q)) ?_
        refine ar_zald M_M_insert rfl h61 (vp_in_nI (by omega) (by decide)) ?_
        rw [nI_clamp (n := (64 * b + q)) (by omega)]
        refine ar_zast M_M_insert rfl h61 (vp_in_nI (by omega) (by decide)) (fun h5 hf he => ?_)
        rw [nI_clamp (n := (64 * b + (q + 1))) (by omega)] at he
        have h56 := hf.at h56 (by simp only [List.mem_cons, List.not_mem_nil, or_false]; omega)
        have h57 := hf.at h57 (by simp only [List.mem_cons, List.not_mem_nil, or_false]; omega)
        have h58 := hf.at h58 (by simp only [List.mem_cons, List.not_mem_nil, or_false]; omega)
        have h59 := hf.at h59 (by simp only [List.mem_cons, List.not_mem_nil, or_false]; omega)
        have h60 := hf.at h60 (by simp only [List.mem_cons, List.not_mem_nil, or_false]; omega)
        have h61 : h5[61]? = some (.inl (2, 256, .inl (upd dr (64 * b + (q + 1)) (vp_nar .boolean (dr (64 * b + q)))))) := he
        have k4 := hf
        rw [show vp_nar .boolean (dr (64 * b + q)) = dr (64 * b + q) by rw [s4.1.1 (64 * b + q) (by omega), ((hc0 b hb).2.2 q (by omega)).2.2.2]; exact nar_bi _] at h61
        refine ar_go M_M_insert 1 _ 91 _ [some (.ref 56), some (.int (nI b)), some (.int (nI n)), some (.int (nI (64 * b + (q + 1)) + Int32.ofInt (-1)))] _ [] rfl ?_
        rw [show nI (64 * b + (q + 1)) + Int32.ofInt (-1) = nI (64 * b + q) from pk_m1 (64 * b + q)]
        refine ar_go M_M_insert 1 _ 12 _ [some (.ref 56), some (.int (nI b)), some (.int (nI n)), some (.int (nI (64 * b + q)))] _ [] rfl ?_
        exact ih q h5 _ _ _ _ (by omega) (by omega) (hlow q hc2 (by omega)) (s1.step (i := 64 * b + q) (by omega)) (s2.step (i := 64 * b + q) (by omega)) (s3.step (i := 64 * b + q) (by omega)) (s4.step (i := 64 * b + q) (by omega)) ⟨h57, h58, h59, h60, h61⟩ h56 (hF.tr (k1.tr (k2.tr (k3.tr k4 (l := [58, 59, 60, 61]) (by simp) (by simp)) (l := [58, 59, 60, 61]) (by simp) (by simp)) (l := [58, 59, 60, 61]) (by simp) (by simp)) (fun _ z => z) (fun _ z => z))
