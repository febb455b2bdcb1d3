/-! Records: a bank is a list of (word, grams, dropped), in the order of the words -/
abbrev Bk : Type := List (Nat × Int32 × Bool)
def wd (l : Bk) (i : Nat) : Nat := (l.getD i (0, 0, false)).1
def gd (l : Bk) (i : Nat) : Int32 := (l.getD i (0, 0, false)).2.1
def dd (l : Bk) (i : Nat) : Bool := (l.getD i (0, 0, false)).2.2
/-- numbers rise; words are small -/
def bkS (l : Bk) : Prop := ∀ i j, i < j → j < l.length → wd l i / 1024 < wd l j / 1024
def bkW (l : Bk) : Prop := ∀ i, i < l.length → wd l i < 1073741824
def isPl (l : Bk) (n p : Nat) : Prop := p ≤ l.length ∧ (∀ i, i < p → wd l i / 1024 < n) ∧ ∀ i, p ≤ i → i < l.length → n ≤ wd l i / 1024
/-- the cells of a Records at r hold l -/
def isR (h : am_H) (r : Nat) (l : Bk) : Prop := l.length ≤ 64 ∧ h[r]? = some (.inr (1, [.ref (r + 1), .ref (r + 2), .ref (r + 3), .int (nI l.length)])) ∧ ∃ (f g m : Nat → Int32), h[r + 1]? = some (.inl (0, 64, .inl f)) ∧ h[r + 2]? = some (.inl (0, 64, .inl g)) ∧ h[r + 3]? = some (.inl (2, 64, .inl m)) ∧ ∀ i, i < l.length → f i = nI (wd l i) ∧ g i = gd l i ∧ m i = bi (dd l i)
theorem c_R_pl_loop (X : am_X) (d : Nat) (h : am_H) {r n : Nat} {l : Bk} (hR : isR h r l) (hrs : r < 1000) (hS : bkS l) (hW : bkW l) (hn : n < 2 ^ 31) : ∀ (k lo hi : Nat) (x4 : Option Value), hi - lo < k → lo ≤ hi → hi ≤ l.length → (∀ i, i < lo → wd l i / 1024 < n) → (∀ i, hi ≤ i → i < l.length → n ≤ wd l i / 1024) → ar Pg X d n_R_placeOf 7 [some (.ref r), some (.int (nI n)), some (.int (nI lo)), some (.int (nI hi)), x4] [] h (fun rr h' => ∃ p, isPl l n p ∧ rr = some (.int (nI p)) ∧ h' = h) := by
  obtain ⟨hlen, hr, f, g, m, hw, hg, hm, hfa⟩ := hR
  intro k
  induction k with
  | zero => intro lo hi x4 hk; omega
  | succ k ih =>
    intro lo hi x4 hk hlh hhl ha hb
    refine ar_go M_R_placeOf 2 _ 9 _ [some (.ref r), some (.int (nI n)), some (.int (nI lo)), some (.int (nI hi)), x4] _ [.int (nI hi), .int (nI lo)] rfl ?_
    refine ar_icmp M_R_placeOf rfl rfl (fun hc => ?_) (fun hc => ?_)
    · have hc := c2_ge_t (a := lo) (b := hi) (by omega) (by omega) hc
      refine ar_go M_R_placeOf 1 _ 49 _ [some (.ref r), some (.int (nI n)), some (.int (nI lo)), some (.int (nI hi)), x4] _ [.int (nI lo)] rfl ?_
      exact ar_R M_R_placeOf rfl rfl rfl rfl (⟨lo, ⟨by omega, ha, fun i h1 h2 => hb i (by omega) h2⟩, rfl, rfl⟩)
    · have hc := c2_ge_f (a := lo) (b := hi) (by omega) (by omega) hc
      refine ar_go M_R_placeOf 3 _ 15 _ [some (.ref r), some (.int (nI n)), some (.int (nI lo)), some (.int (nI hi)), x4] _ [.int (nI lo + nI hi)] rfl ?_
      refine ar_top (w := .int (nI (lo + hi))) (congrArg Value.int (nI_add lo hi)) ?_
      refine ar_go M_R_placeOf 1 _ 16 _ [some (.ref r), some (.int (nI n)), some (.int (nI lo)), some (.int (nI hi)), x4] _ [.int (nI 2), .int (nI (lo + hi))] rfl ?_
      refine ar_idiv M_R_placeOf rfl (by decide) ?_
      refine ar_top (w := .int (nI ((lo + hi) / 2))) (congrArg Value.int (pk_div (by omega) (by decide) (by decide))) ?_
      obtain ⟨md, hmd⟩ : ∃ md, md = (lo + hi) / 2 := ⟨_, rfl⟩
      rw [← hmd]
      have hwm := hW md (by omega)
      refine ar_go M_R_placeOf 2 _ 20 _ [some (.ref r), some (.int (nI n)), some (.int (nI lo)), some (.int (nI hi)), some (.int (nI md))] _ [.ref r] rfl ?_
      refine ar_get M_R_placeOf rfl rfl hr rfl ?_
      refine ar_go M_R_placeOf 1 _ 25 _ [some (.ref r), some (.int (nI n)), some (.int (nI lo)), some (.int (nI hi)), some (.int (nI md))] _ [.int (nI md), .ref (r + 1)] rfl ?_
      refine ar_iald M_R_placeOf rfl (by unfold am_x0; omega) hw (vp_in_nI (by omega) (by decide)) ?_
      rw [nI_clamp (n := md) (by omega)]
      refine ar_top (w := .int (nI (wd l md))) (congrArg Value.int ((hfa md (by omega)).1)) ?_
      refine ar_go M_R_placeOf 1 _ 29 _ [some (.ref r), some (.int (nI n)), some (.int (nI lo)), some (.int (nI hi)), some (.int (nI md))] _ [.int (nI 1024), .int (nI (wd l md))] rfl ?_
      refine ar_idiv M_R_placeOf rfl (by decide) ?_
      refine ar_top (w := .int (nI ((wd l md) / 1024))) (congrArg Value.int (pk_div (by omega) (by decide) (by decide))) ?_
      refine ar_go M_R_placeOf 1 _ 31 _ [some (.ref r), some (.int (nI n)), some (.int (nI lo)), some (.int (nI hi)), some (.int (nI md))] _ [.int (nI n), .int (nI ((wd l md) / 1024))] rfl ?_
      refine ar_icmp M_R_placeOf rfl rfl (fun hc2 => ?_) (fun hc2 => ?_)
      · have hc2 := c2_ge_t (a := ((wd l md) / 1024)) (b := n) (by omega) (by omega) hc2
        refine ar_go M_R_placeOf 3 _ 7 _ [some (.ref r), some (.int (nI n)), some (.int (nI lo)), some (.int (nI md)), some (.int (nI md))] _ [] rfl ?_
        exact ih lo md _ (by omega) (by omega) (by omega) ha (fun i h1 h2 => by
          by_cases e : i = md
          · subst e; exact hc2
          · have := hS md i (by omega) h2; omega)
      · have hc2 := c2_ge_f (a := ((wd l md) / 1024)) (b := n) (by omega) (by omega) hc2
        refine ar_go M_R_placeOf 3 _ 38 _ [some (.ref r), some (.int (nI n)), some (.int (nI lo)), some (.int (nI hi)), some (.int (nI md))] _ [.int (nI md + nI 1)] rfl ?_
        refine ar_top (w := .int (nI (md + 1))) (congrArg Value.int (nI_add md 1)) ?_
        refine ar_go M_R_placeOf 3 _ 7 _ [some (.ref r), some (.int (nI n)), some (.int (nI (md + 1))), some (.int (nI hi)), some (.int (nI md))] _ [] rfl ?_
        exact ih (md + 1) hi _ (by omega) (by omega) (by omega) (fun i h1 => by
          by_cases e : i = md
          · subst e; exact hc2
          · have := hS i md (by omega) (by omega); omega) hb
theorem c_R_placeOf (X : am_X) (d : Nat) (h : am_H) {r n : Nat} {l : Bk} (hR : isR h r l) (hrs : r < 1000) (hS : bkS l) (hW : bkW l) (hn : n < 2 ^ 31) : ar Pg X d n_R_placeOf 0 [some (.ref r), some (.int (nI n)), none, none, none] [] h (fun rr h' => ∃ p, isPl l n p ∧ rr = some (.int (nI p)) ∧ h' = h) := by
  have hR0 := hR
  obtain ⟨hlen, hr, f, g, m, hw, hg, hm, hfa⟩ := hR
  refine ar_go M_R_placeOf 3 _ 3 _ [some (.ref r), some (.int (nI n)), some (.int (nI 0)), none, none] _ [.ref r] rfl ?_
  refine ar_get M_R_placeOf rfl rfl hr rfl ?_
  refine ar_go M_R_placeOf 1 _ 7 _ [some (.ref r), some (.int (nI n)), some (.int (nI 0)), some (.int (nI l.length)), none] _ [] rfl ?_
  exact c_R_pl_loop X d h hR0 hrs hS hW hn (l.length + 1) 0 l.length none (by omega) (by omega) (by omega) (fun i hi => by omega) (fun i h1 h2 => by omega)
def hasAt (l : Bk) (p n : Nat) : Bool := decide (p < l.length) && decide (wd l p / 1024 = n)
theorem c_R_holdsAt (X : am_X) (d : Nat) (h : am_H) {r p n : Nat} {l : Bk} (hR : isR h r l) (hrs : r < 1000) (hW : bkW l) (hp : p < 2 ^ 31) (hn : n < 2 ^ 31) : ar Pg X d n_R_holdsAt 0 [some (.ref r), some (.int (nI p)), some (.int (nI n))] [] h (fun rr h' => rr = some (.int (bi (hasAt l p n))) ∧ h' = h) := by
  obtain ⟨hlen, hr, f, g, m, hw, hg, hm, hfa⟩ := hR
  refine ar_go M_R_holdsAt 2 _ 2 _ [some (.ref r), some (.int (nI p)), some (.int (nI n))] _ [.ref r, .int (nI p)] rfl ?_
  refine ar_get M_R_holdsAt rfl rfl hr rfl ?_
  refine ar_icmp M_R_holdsAt rfl rfl (fun hc => ?_) (fun hc => ?_)
  · have hc := c2_ge_t (a := p) (b := l.length) (by omega) (by omega) hc
    refine ar_go M_R_holdsAt 1 _ 27 _ [some (.ref r), some (.int (nI p)), some (.int (nI n))] _ [.int (nI 0)] rfl ?_
    exact ar_zret M_R_holdsAt rfl rfl (Or.inl rfl) (⟨by simp [hasAt, bi, show ¬ p < l.length by omega, nI], rfl⟩)
  · have hc := c2_ge_f (a := p) (b := l.length) (by omega) (by omega) hc
    have hwp := hW p (by omega)
    refine ar_go M_R_holdsAt 1 _ 9 _ [some (.ref r), some (.int (nI p)), some (.int (nI n))] _ [.ref r] rfl ?_
    refine ar_get M_R_holdsAt rfl rfl hr rfl ?_
    refine ar_go M_R_holdsAt 1 _ 13 _ [some (.ref r), some (.int (nI p)), some (.int (nI n))] _ [.int (nI p), .ref (r + 1)] rfl ?_
    refine ar_iald M_R_holdsAt rfl (by unfold am_x0; omega) hw (vp_in_nI (by omega) (by decide)) ?_
    rw [nI_clamp (n := p) (by omega)]
    refine ar_top (w := .int (nI (wd l p))) (congrArg Value.int ((hfa p (by omega)).1)) ?_
    refine ar_go M_R_holdsAt 1 _ 17 _ [some (.ref r), some (.int (nI p)), some (.int (nI n))] _ [.int (nI 1024), .int (nI (wd l p))] rfl ?_
    refine ar_idiv M_R_holdsAt rfl (by decide) ?_
    refine ar_top (w := .int (nI ((wd l p) / 1024))) (congrArg Value.int (pk_div (by omega) (by decide) (by decide))) ?_
    refine ar_go M_R_holdsAt 1 _ 19 _ [some (.ref r), some (.int (nI p)), some (.int (nI n))] _ [.int (nI n), .int (nI ((wd l p) / 1024))] rfl ?_
    refine ar_icmp M_R_holdsAt rfl rfl (fun hc2 => ?_) (fun hc2 => ?_)
    · have hc2 := c2_ne_t (a := ((wd l p) / 1024)) (b := n) (by omega) (by omega) hc2
      refine ar_go M_R_holdsAt 1 _ 27 _ [some (.ref r), some (.int (nI p)), some (.int (nI n))] _ [.int (nI 0)] rfl ?_
      exact ar_zret M_R_holdsAt rfl rfl (Or.inl rfl) (⟨by simp [hasAt, bi, hc, hc2, nI], rfl⟩)
    · have hc2 := c2_ne_f (a := ((wd l p) / 1024)) (b := n) (by omega) (by omega) hc2
      refine ar_go M_R_holdsAt 2 _ 27 _ [some (.ref r), some (.int (nI p)), some (.int (nI n))] _ [.int (nI 1)] rfl ?_
      exact ar_zret M_R_holdsAt rfl rfl (Or.inr rfl) (⟨by simp [hasAt, bi, hc, hc2, nI], rfl⟩)
theorem c_R_versionAt (X : am_X) (d : Nat) (h : am_H) {r p : Nat} {l : Bk} (hR : isR h r l) (hrs : r < 1000) (hW : bkW l) (hp : p < l.length) : ar Pg X d n_R_versionAt 0 [some (.ref r), some (.int (nI p))] [] h (fun rr h' => rr = some (.int (nI (wd l p % 1024))) ∧ h' = h) := by
  obtain ⟨hlen, hr, f, g, m, hw, hg, hm, hfa⟩ := hR
  have hwp := hW p hp
  refine ar_go M_R_versionAt 1 _ 1 _ [some (.ref r), some (.int (nI p))] _ [.ref r] rfl ?_
  refine ar_get M_R_versionAt rfl rfl hr rfl ?_
  refine ar_go M_R_versionAt 1 _ 5 _ [some (.ref r), some (.int (nI p))] _ [.int (nI p), .ref (r + 1)] rfl ?_
  refine ar_iald M_R_versionAt rfl (by unfold am_x0; omega) hw (vp_in_nI (by omega) (by decide)) ?_
  rw [nI_clamp (n := p) (by omega)]
  refine ar_top (w := .int (nI (wd l p))) (congrArg Value.int ((hfa p (by omega)).1)) ?_
  refine ar_go M_R_versionAt 1 _ 9 _ [some (.ref r), some (.int (nI p))] _ [.int (nI 1024), .int (nI (wd l p))] rfl ?_
  refine ar_irem M_R_versionAt rfl (by decide) ?_
  refine ar_top (w := .int (nI ((wd l p) % 1024))) (congrArg Value.int (pk_rem (by omega) (by decide) (by decide))) ?_
  exact ar_R M_R_versionAt rfl rfl rfl rfl (⟨rfl, rfl⟩)
