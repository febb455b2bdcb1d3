/-! The class: what works on one bank -/
theorem rng_t {k n : Nat} (hk : k < n) (hn : n < 2 ^ 31) : rng n (nI k) = true := by
  have a : am_c2 .lt (nI k) 0 = false := decide_eq_false (fun z => Nat.not_lt_zero _ ((nI_ltI (a := k) (b := 0) (by omega) (by decide)).mp z))
  have b : am_c2 .ge (nI k) (nI n) = false := decide_eq_false (fun z => by have := (nI_leI hn (by omega)).mp z; omega)
  simp [rng, a, b]
theorem c2_gl (x y : Int32) : am_c2 .ge x y = !am_c2 .lt x y := by
  show decide (y ≤ x) = !decide (x < y)
  by_cases h : x < y
  · rw [decide_eq_true h, decide_eq_false (Int32.not_le.mpr h)]; rfl
  · rw [decide_eq_false h, decide_eq_true (Int32.not_lt.mp h)]; rfl
def onB {α : Type} (v w : Int32) (e : α) (f : Nat → Nat → α) : α := if (rng 4 v && rng 10000 w) = true then f v.toNatClampNeg w.toNatClampNeg else e
theorem onB_in {α : Type} {b k : Nat} (hb : b < 4) (hk : k < 10000) (e : α) (f : Nat → Nat → α) : onB (nI b) (nI k) e f = f b k := by
  unfold onB
  rw [rng_t hb (by decide), rng_t hk (by decide), nI_clamp (by omega), nI_clamp (by omega)]
  rfl
theorem onB_o1 {α : Type} {v w : Int32} (h : rng 4 v = false) (e : α) (f : Nat → Nat → α) : onB v w e f = e := by
  unfold onB
  rw [h]
  rfl
theorem onB_o2 {α : Type} {v w : Int32} (h : rng 10000 w = false) (e : α) (f : Nat → Nat → α) : onB v w e f = e := by
  unfold onB
  rw [h, Bool.and_false]
  rfl
def ct (l : Bk) (n : Nat) : Nat := if hasAt l (pos l n) n = true then wd l (pos l n) % 1024 / 2 else 0
def fuP (l : Bk) (n : Nat) : Bool := (!hasAt l (pos l n) n && decide (l.length = 64)) || decide (ct l n = 500)
def vr (b c : Nat) : Nat := 2 * (c + 1) + b % 2
theorem ct_le {l : Bk} (hV : bkV l) (n : Nat) : ct l n ≤ 500 := by
  unfold ct
  split
  next h => have := hV _ (hasAt_iff.mp h).1; omega
  next => omega
def ptR (B : Nat → Bk) (v w : Int32) : Int32 := onB v w (-1) (fun b k => if fuP (B b) k = true then -3 else nI (vr b (ct (B b) k)))
def ptB (B : Nat → Bk) (v w g : Int32) : Nat → Bk := onB v w B (fun b k => if fuP (B b) k = true then B else updB B b (stR (B b) (1024 * k + vr b (ct (B b) k), g, false)))
def dpN (l : Bk) (k : Nat) : Bool := !hasAt l (pos l k) k || dd l (pos l k)
def dpR (B : Nat → Bk) (v w : Int32) : Int32 := onB v w (-1) (fun b k => if dpN (B b) k = true then -2 else if ct (B b) k = 500 then -3 else nI (vr b (ct (B b) k)))
def dpB (B : Nat → Bk) (v w : Int32) : Nat → Bk := onB v w B (fun b k => if dpN (B b) k = true then B else if ct (B b) k = 500 then B else updB B b (stR (B b) (1024 * k + vr b (ct (B b) k), gd (B b) (pos (B b) k), true)))
def vsR (B : Nat → Bk) (v w : Int32) : Int32 := onB v w (-1) (fun b k => if hasAt (B b) (pos (B b) k) k = true then (if dd (B b) (pos (B b) k) = true then -nI (wd (B b) (pos (B b) k) % 1024) else nI (wd (B b) (pos (B b) k) % 1024)) else 0)
def grR (B : Nat → Bk) (v w : Int32) : Int32 := onB v w 0 (fun b k => if hasAt (B b) (pos (B b) k) k = true then gd (B b) (pos (B b) k) else 0)
def szR (B : Nat → Bk) (v : Int32) : Int32 := if rng 4 v = true then nI (B v.toNatClampNeg).length else -1
def wdR (B : Nat → Bk) (v w : Int32) : Int32 := if (rng 4 v && rng (B v.toNatClampNeg).length w) = true then nI (wd (B v.toNatClampNeg) w.toNatClampNeg) else -1
def smR (B : Nat → Bk) (v w : Int32) : Int32 := if (rng 4 v && rng 18 w) = true then nI (smp (B v.toNatClampNeg) (1073741824 + w.toNatClampNeg) (B v.toNatClampNeg).length) else -1
def dfR (B : Nat → Bk) (v w : Int32) : Int32 := if twB v w = true then nI ((B v.toNatClampNeg).length + (B w.toNatClampNeg).length) - nI (2 * cntB (shB (B v.toNatClampNeg) (B w.toNatClampNeg)) (B v.toNatClampNeg).length) else -1
def dgR (u l : Nat) (v : Int32) : Int32 := if v = 0 then nI u else if v = 1 then nI l else -1
def fcR (u : Nat) (U : Nat → Nat) (l : Nat) (W : Nat → Nat) (v w : Int32) : Int32 := if v = 0 ∧ rng (u + 1) w = true then nI (U w.toNatClampNeg) else if v = 1 ∧ rng (l + 1) w = true then nI (W w.toNatClampNeg) else -1
theorem c_B_nextVersion (X : am_X) (d : Nat) (h : am_H) {b c : Nat} (hb : b < 4) (hc : c ≤ 500) : ar Pg X d n_B_nextVersion 0 [some (.int (nI b)), some (.int (nI c))] [] h (fun rr h' => rr = some (.int (nI (vr b c))) ∧ h' = h) := by
  refine ar_go M_B_nextVersion 4 _ 4 _ [some (.int (nI b)), some (.int (nI c))] _ [.int (nI c + nI 1), .int (nI 2)] rfl ?_
  refine ar_top (w := .int (nI (c + 1))) (congrArg Value.int (nI_add c 1)) ?_
  refine ar_go M_B_nextVersion 1 _ 5 _ [some (.int (nI b)), some (.int (nI c))] _ [.int (nI 2 * nI (c + 1))] rfl ?_
  refine ar_top (w := .int (nI (2 * (c + 1)))) (congrArg Value.int (pk_mul 2 (c + 1))) ?_
  refine ar_go M_B_nextVersion 2 _ 7 _ [some (.int (nI b)), some (.int (nI c))] _ [.int (nI 2), .int (nI b), .int (nI (2 * (c + 1)))] rfl ?_
  refine ar_irem M_B_nextVersion rfl (by decide) ?_
  refine ar_top (w := .int (nI (b % 2))) (congrArg Value.int (pk_rem (by omega) (by decide) (by decide))) ?_
  refine ar_go M_B_nextVersion 1 _ 9 _ [some (.int (nI b)), some (.int (nI c))] _ [.int (nI (2 * (c + 1)) + nI (b % 2))] rfl ?_
  refine ar_top (w := .int (nI ((2 * (c + 1)) + (b % 2)))) (congrArg Value.int (nI_add (2 * (c + 1)) (b % 2))) ?_
  exact ar_R M_B_nextVersion rfl rfl rfl rfl (⟨rfl, rfl⟩)
theorem c_B_wordOf (X : am_X) (d : Nat) (h : am_H) {k c : Nat} : ar Pg X d n_B_wordOf 0 [some (.int (nI k)), some (.int (nI c))] [] h (fun rr h' => rr = some (.int (nI (1024 * k + c))) ∧ h' = h) := by
  refine ar_go M_B_wordOf 3 _ 5 _ [some (.int (nI k)), some (.int (nI c))] _ [.int (nI 1024 * nI k)] rfl ?_
  refine ar_top (w := .int (nI (1024 * k))) (congrArg Value.int (pk_mul 1024 k)) ?_
  refine ar_go M_B_wordOf 2 _ 7 _ [some (.int (nI k)), some (.int (nI c))] _ [.int (nI (1024 * k) + nI c)] rfl ?_
  refine ar_top (w := .int (nI ((1024 * k) + c))) (congrArg Value.int (nI_add (1024 * k) c)) ?_
  exact ar_R M_B_wordOf rfl rfl rfl rfl (⟨rfl, rfl⟩)
theorem c_B_put (X : am_X) (d : Nat) (h : am_H) {B : Nat → Bk} {s : Int64} {u : Nat} {U : Nat → Nat} {l : Nat} {W : Nat → Nat} (hC : isCl h B s u U l W) (v w gr : Int32) : ar Pg X (d + 1 + 1) n_B_put 0 [some (.ref 0), some (.int v), some (.int w), some (.int gr), none, none, none, none, none] [] h (fun rr h' => rr = some (.int (ptR B v w)) ∧ isCl h' (ptB B v w gr) s u U l W ∧ fr clL h h') := by
  have hC0 := hC
  obtain ⟨h0, ⟨bf, hb1, hbf⟩, hK, hX, hPr⟩ := hC
  have h0 : h[0]? = some (.inr (0, [.ref 1, .ref 2, .ref 6, .ref 10, .long s])) := h0
  refine ar_go M_B_put 1 _ 1 _ [some (.ref 0), some (.int v), some (.int w), some (.int gr), none, none, none, none, none] _ [.int v] rfl ?_
  refine ar_CS M_B_put rfl rfl (Nat.le_of_ble_eq_true rfl) rfl rfl (Nat.le_of_ble_eq_true rfl) M_B_isBank (Nat.le_of_ble_eq_true rfl) (c_B_isBank X (d + 1) _ v) (fun r1 h1 hq => ?_)
  obtain ⟨rfl, rfl⟩ := hq
  refine ⟨rfl, ?_⟩
  show ar Pg _ _ _ 4 [some (.ref 0), some (.int v), some (.int w), some (.int gr), none, none, none, none, none] [.int (bi (rng 4 v))] _ _
  refine ar_if M_B_put rfl rfl (fun hc1 => ?_) (fun hc1 => ?_)
  · have hc1 := bi_eq_t hc1
    refine ar_go M_B_put 1 _ 15 _ [some (.ref 0), some (.int v), some (.int w), some (.int gr), none, none, none, none, none] _ [.int (-1)] rfl ?_
    exact ar_R M_B_put rfl rfl rfl rfl (⟨by rw [show ptR B v w = _ from onB_o1 hc1 _ _] <;> rfl, by rw [show ptB B v w gr = B from onB_o1 hc1 _ _]; exact hC0, fr.rf _ _⟩)
  · have hc1 := bi_eq_f hc1
    refine ar_go M_B_put 1 _ 8 _ [some (.ref 0), some (.int v), some (.int w), some (.int gr), none, none, none, none, none] _ [.int w] rfl ?_
    refine ar_CS M_B_put rfl rfl (Nat.le_of_ble_eq_true rfl) rfl rfl (Nat.le_of_ble_eq_true rfl) M_B_isNumber (Nat.le_of_ble_eq_true rfl) (c_B_isNumber X (d + 1) _ w) (fun r1 h1 hq => ?_)
    obtain ⟨rfl, rfl⟩ := hq
    refine ⟨rfl, ?_⟩
    show ar Pg _ _ _ 11 [some (.ref 0), some (.int v), some (.int w), some (.int gr), none, none, none, none, none] [.int (bi (rng 10000 w))] _ _
    refine ar_if M_B_put rfl rfl (fun hc2 => ?_) (fun hc2 => ?_)
    · have hc2 := bi_ne_t hc2
      obtain ⟨b, hb, rfl⟩ := rng_ex (by decide) hc1
      obtain ⟨k, hk, rfl⟩ := rng_ex (by decide) hc2
      obtain ⟨hR, hS, hV⟩ := hK b hb
      have hW := hV.W
      have hR0 := hR
      obtain ⟨hlen, hr, f, g, m, hw, hg, hm, hfa⟩ := hR
      have hpl := pos_pl (B b) k hS
      obtain ⟨p, hpe⟩ : ∃ p, p = pos (B b) k := ⟨_, rfl⟩
      rw [← hpe] at hpl
      have hpl1 := hpl.1
      refine ar_go M_B_put 1 _ 17 _ [some (.ref 0), some (.int (nI b)), some (.int (nI k)), some (.int gr), none, none, none, none, none] _ [.ref 0] rfl ?_
      refine ar_get M_B_put rfl rfl h0 rfl ?_
      refine ar_go M_B_put 1 _ 21 _ [some (.ref 0), some (.int (nI b)), some (.int (nI k)), some (.int gr), none, none, none, none, none] _ [.int (nI b), .ref 1] rfl ?_
      refine ar_aald M_B_put rfl hb1 (Or.inr rfl) (vp_in_nI (by omega) (by decide)) (by rw [nI_clamp (n := b) (by omega)]; exact hbf b (by omega)) ?_
      refine ar_go M_B_put 3 _ 27 _ [some (.ref 0), some (.int (nI b)), some (.int (nI k)), some (.int gr), some (.ref (40 + 4 * b)), none, none, none, none] _ [.int (nI k), .ref (40 + 4 * b)] rfl ?_
      refine ar_CV M_B_put rfl rfl (Or.inl rfl) rfl rfl (Nat.le_of_ble_eq_true rfl) hr M_R_placeOf (Nat.le_of_ble_eq_true rfl) (c_R_pos X (d + 1) _ hR0 (by omega) hS hW (by omega)) (fun r1 h1 hq => ?_)
      obtain ⟨rfl, rfl⟩ := hq
      refine ⟨rfl, ?_⟩
      rw [← hpe]
      show ar Pg _ _ _ 30 [some (.ref 0), some (.int (nI b)), some (.int (nI k)), some (.int gr), some (.ref (40 + 4 * b)), none, none, none, none] [.int (nI p)] _ _
      refine ar_go M_B_put 4 _ 37 _ [some (.ref 0), some (.int (nI b)), some (.int (nI k)), some (.int gr), some (.ref (40 + 4 * b)), some (.int (nI p)), none, none, none] _ [.int (nI k), .int (nI p), .ref (40 + 4 * b)] rfl ?_
      refine ar_CV M_B_put rfl rfl (Or.inl rfl) rfl rfl (Nat.le_of_ble_eq_true rfl) hr M_R_holdsAt (Nat.le_of_ble_eq_true rfl) (c_R_holdsAt X (d + 1) _ hR0 (by omega) hW (by omega) (by omega)) (fun r1 h1 hq => ?_)
      obtain ⟨rfl, rfl⟩ := hq
      refine ⟨rfl, ?_⟩
      show ar Pg _ _ _ 40 [some (.ref 0), some (.int (nI b)), some (.int (nI k)), some (.int gr), some (.ref (40 + 4 * b)), some (.int (nI p)), none, none, none] [.int (bi (hasAt (B b) p k))] _ _
      refine ar_if M_B_put rfl rfl (fun hc => ?_) (fun hc => ?_)
      · have hc := bi_ne_t hc
        have hch := hc
        have hh := hasAt_iff.mp hc
        have hwp := hW p hh.1
        have hvp := hV p hh.1
        refine ar_go M_B_put 3 _ 52 _ [some (.ref 0), some (.int (nI b)), some (.int (nI k)), some (.int gr), some (.ref (40 + 4 * b)), some (.int (nI p)), some (.int (nI 0)), none, none] _ [.int (nI 0)] rfl ?_
        refine ar_if M_B_put rfl rfl (fun _ => ?_) (fun z => absurd z (by decide))
        refine ar_go M_B_put 2 _ 63 _ [some (.ref 0), some (.int (nI b)), some (.int (nI k)), some (.int gr), some (.ref (40 + 4 * b)), some (.int (nI p)), some (.int (nI 0)), none, none] _ [.int (nI p), .ref (40 + 4 * b)] rfl ?_
        refine ar_CV M_B_put rfl rfl (Or.inl rfl) rfl rfl (Nat.le_of_ble_eq_true rfl) hr M_R_versionAt (Nat.le_of_ble_eq_true rfl) (c_R_versionAt X (d + 1) _ hR0 (by omega) hW hh.1) (fun r1 h1 hq => ?_)
        obtain ⟨rfl, rfl⟩ := hq
        refine ⟨rfl, ?_⟩
        show ar Pg _ _ _ 66 [some (.ref 0), some (.int (nI b)), some (.int (nI k)), some (.int gr), some (.ref (40 + 4 * b)), some (.int (nI p)), some (.int (nI 0)), none, none] [.int (nI (wd (B b) p % 1024))] _ _
        refine ar_go M_B_put 1 _ 67 _ [some (.ref 0), some (.int (nI b)), some (.int (nI k)), some (.int gr), some (.ref (40 + 4 * b)), some (.int (nI p)), some (.int (nI 0)), none, none] _ [.int (nI 2), .int (nI (wd (B b) p % 1024))] rfl ?_
        refine ar_idiv M_B_put rfl (by decide) ?_
        refine ar_top (w := .int (nI ((wd (B b) p % 1024) / 2))) (congrArg Value.int (pk_div (by omega) (by decide) (by decide))) ?_
        refine ar_go M_B_put 2 _ 72 _ [some (.ref 0), some (.int (nI b)), some (.int (nI k)), some (.int gr), some (.ref (40 + 4 * b)), some (.int (nI p)), some (.int (nI 0)), some (.int (nI ((wd (B b) p % 1024) / 2))), none] _ [.int (nI 0)] rfl ?_
        refine ar_if M_B_put rfl rfl (fun _ => ?_) (fun z => absurd z (by decide))
        refine ar_go M_B_put 2 _ 90 _ [some (.ref 0), some (.int (nI b)), some (.int (nI k)), some (.int gr), some (.ref (40 + 4 * b)), some (.int (nI p)), some (.int (nI 0)), some (.int (nI ((wd (B b) p % 1024) / 2))), none] _ [.int (nI 500), .int (nI ((wd (B b) p % 1024) / 2))] rfl ?_
        refine ar_icmp M_B_put rfl rfl (fun hc3 => ?_) (fun hc3 => ?_)
        · have hc3 := c2_ne_t (a := ((wd (B b) p % 1024) / 2)) (b := 500) (by omega) (by omega) hc3
          have hfu : fuP (B b) k = false := by unfold fuP ct; rw [← hpe]; simp [hch]; omega
          have hcte : ct (B b) k = wd (B b) p % 1024 / 2 := by unfold ct; rw [← hpe]; simp [hch]
          have hctl := ct_le hV k
          rw [hcte] at hctl
          refine ar_go M_B_put 2 _ 99 _ [some (.ref 0), some (.int (nI b)), some (.int (nI k)), some (.int gr), some (.ref (40 + 4 * b)), some (.int (nI p)), some (.int (nI 0)), some (.int (nI ((wd (B b) p % 1024) / 2))), none] _ [.int (nI ((wd (B b) p % 1024) / 2)), .int (nI b)] rfl ?_
          refine ar_CS M_B_put rfl rfl (Nat.le_of_ble_eq_true rfl) rfl rfl (Nat.le_of_ble_eq_true rfl) M_B_nextVersion (Nat.le_of_ble_eq_true rfl) (c_B_nextVersion X (d + 1) _ (b := b) (c := wd (B b) p % 1024 / 2) hb (by omega)) (fun r1 h1 hq => ?_)
          obtain ⟨rfl, rfl⟩ := hq
          refine ⟨rfl, ?_⟩
          show ar Pg _ _ _ 102 [some (.ref 0), some (.int (nI b)), some (.int (nI k)), some (.int gr), some (.ref (40 + 4 * b)), some (.int (nI p)), some (.int (nI 0)), some (.int (nI ((wd (B b) p % 1024) / 2))), none] [.int (nI (vr b (wd (B b) p % 1024 / 2)))] _ _
          have hvr : vr b (wd (B b) p % 1024 / 2) < 1002 ∧ 2 ≤ vr b (wd (B b) p % 1024 / 2) := by unfold vr; omega
          refine ar_go M_B_put 4 _ 109 _ [some (.ref 0), some (.int (nI b)), some (.int (nI k)), some (.int gr), some (.ref (40 + 4 * b)), some (.int (nI p)), some (.int (nI 0)), some (.int (nI ((wd (B b) p % 1024) / 2))), some (.int (nI (vr b (wd (B b) p % 1024 / 2))))] _ [.int (nI (vr b (wd (B b) p % 1024 / 2))), .int (nI k), .ref (40 + 4 * b)] rfl ?_
          refine ar_CS M_B_put rfl rfl (Nat.le_of_ble_eq_true rfl) rfl rfl (Nat.le_of_ble_eq_true rfl) M_B_wordOf (Nat.le_of_ble_eq_true rfl) (c_B_wordOf X (d + 1) _ (k := k) (c := vr b (wd (B b) p % 1024 / 2))) (fun r1 h1 hq => ?_)
          obtain ⟨rfl, rfl⟩ := hq
          refine ⟨rfl, ?_⟩
          show ar Pg _ _ _ 112 [some (.ref 0), some (.int (nI b)), some (.int (nI k)), some (.int gr), some (.ref (40 + 4 * b)), some (.int (nI p)), some (.int (nI 0)), some (.int (nI ((wd (B b) p % 1024) / 2))), some (.int (nI (vr b (wd (B b) p % 1024 / 2))))] [.int (nI (1024 * k + vr b (wd (B b) p % 1024 / 2))), .ref (40 + 4 * b)] _ _
          refine ar_go M_B_put 2 _ 114 _ [some (.ref 0), some (.int (nI b)), some (.int (nI k)), some (.int gr), some (.ref (40 + 4 * b)), some (.int (nI p)), some (.int (nI 0)), some (.int (nI ((wd (B b) p % 1024) / 2))), some (.int (nI (vr b (wd (B b) p % 1024 / 2))))] _ [.int (nI 0), .int gr, .int (nI (1024 * k + vr b (wd (B b) p % 1024 / 2))), .ref (40 + 4 * b)] rfl ?_
          have hst := c_R_store X d _ (gr := gr) (bb := false) (W := 1024 * k + vr b (wd (B b) p % 1024 / 2)) hR0 (by omega) hS hW (by omega)
          refine ar_CV M_B_put rfl rfl (Or.inl rfl) rfl rfl (Nat.le_of_ble_eq_true rfl) hr M_R_store (Nat.le_of_ble_eq_true rfl) hst (fun r1 h2 hq => ?_)
          obtain ⟨rfl, hf, hR1⟩ := hq
          refine ⟨hf.1, ?_⟩
          show ar Pg _ _ _ 117 [some (.ref 0), some (.int (nI b)), some (.int (nI k)), some (.int gr), some (.ref (40 + 4 * b)), some (.int (nI p)), some (.int (nI 0)), some (.int (nI ((wd (B b) p % 1024) / 2))), some (.int (nI (vr b (wd (B b) p % 1024 / 2))))] [] _ _
          refine ar_go M_B_put 1 _ 119 _ [some (.ref 0), some (.int (nI b)), some (.int (nI k)), some (.int gr), some (.ref (40 + 4 * b)), some (.int (nI p)), some (.int (nI 0)), some (.int (nI ((wd (B b) p % 1024) / 2))), some (.int (nI (vr b (wd (B b) p % 1024 / 2))))] _ [.int (nI (vr b (wd (B b) p % 1024 / 2)))] rfl ?_
          have hvv := stR_V hS hV (e := (1024 * k + vr b (wd (B b) p % 1024 / 2), gr, false)) ⟨by simp only; omega, by simp only; omega, by simp only; omega⟩
          exact ar_R M_B_put rfl rfl rfl rfl ⟨by rw [show ptR B (nI b) (nI k) = _ from onB_in hb hk _ _, if_neg (by rw [hfu]; decide), hcte], by rw [show ptB B (nI b) (nI k) gr = _ from onB_in hb hk _ _, if_neg (by rw [hfu]; decide), hcte]; exact hC0.bank hb hf hR1 (stR_S hS _) hvv, hf.mono (bank_cl hb)⟩
        · have hc3 := c2_ne_f (a := ((wd (B b) p % 1024) / 2)) (b := 500) (by omega) (by omega) hc3
          have hfu : fuP (B b) k = true := by unfold fuP ct; rw [← hpe]; simp [hch]; omega
          refine ar_go M_B_put 1 _ 95 _ [some (.ref 0), some (.int (nI b)), some (.int (nI k)), some (.int gr), some (.ref (40 + 4 * b)), some (.int (nI p)), some (.int (nI 0)), some (.int (nI ((wd (B b) p % 1024) / 2))), none] _ [.int (-3)] rfl ?_
          exact ar_R M_B_put rfl rfl rfl rfl (⟨by rw [show ptR B (nI b) (nI k) = _ from onB_in hb hk _ _, if_pos hfu] <;> rfl, by rw [show ptB B (nI b) (nI k) gr = _ from onB_in hb hk _ _, if_pos hfu]; exact hC0, fr.rf _ _⟩)
      · have hc := bi_ne_f hc
        have hch := hc
        refine ar_go M_B_put 4 _ 52 _ [some (.ref 0), some (.int (nI b)), some (.int (nI k)), some (.int gr), some (.ref (40 + 4 * b)), some (.int (nI p)), some (.int (nI 1)), none, none] _ [.int (nI 1)] rfl ?_
        refine ar_if M_B_put rfl rfl (fun z => absurd z (by decide)) (fun _ => ?_)
        refine ar_go M_B_put 4 _ 72 _ [some (.ref 0), some (.int (nI b)), some (.int (nI k)), some (.int gr), some (.ref (40 + 4 * b)), some (.int (nI p)), some (.int (nI 1)), some (.int (nI 0)), none] _ [.int (nI 1)] rfl ?_
        refine ar_if M_B_put rfl rfl (fun z => absurd z (by decide)) (fun _ => ?_)
        refine ar_go M_B_put 1 _ 77 _ [some (.ref 0), some (.int (nI b)), some (.int (nI k)), some (.int gr), some (.ref (40 + 4 * b)), some (.int (nI p)), some (.int (nI 1)), some (.int (nI 0)), none] _ [.ref (40 + 4 * b)] rfl ?_
        refine ar_get M_B_put rfl rfl hr rfl ?_
        refine ar_go M_B_put 1 _ 82 _ [some (.ref 0), some (.int (nI b)), some (.int (nI k)), some (.int gr), some (.ref (40 + 4 * b)), some (.int (nI p)), some (.int (nI 1)), some (.int (nI 0)), none] _ [.int (nI 64), .int (nI ((B b).length))] rfl ?_
        refine ar_icmp M_B_put rfl rfl (fun hc3 => ?_) (fun hc3 => ?_)
        · have hc3 := c2_eq_t (a := ((B b).length)) (b := 64) (by omega) (by omega) hc3
          have hfu : fuP (B b) k = true := by unfold fuP ct; rw [← hpe]; simp [hch, hc3]
          refine ar_go M_B_put 1 _ 95 _ [some (.ref 0), some (.int (nI b)), some (.int (nI k)), some (.int gr), some (.ref (40 + 4 * b)), some (.int (nI p)), some (.int (nI 1)), some (.int (nI 0)), none] _ [.int (-3)] rfl ?_
          exact ar_R M_B_put rfl rfl rfl rfl (⟨by rw [show ptR B (nI b) (nI k) = _ from onB_in hb hk _ _, if_pos hfu] <;> rfl, by rw [show ptB B (nI b) (nI k) gr = _ from onB_in hb hk _ _, if_pos hfu]; exact hC0, fr.rf _ _⟩)
        · have hc3 := c2_eq_f (a := ((B b).length)) (b := 64) (by omega) (by omega) hc3
          have hfu : fuP (B b) k = false := by unfold fuP ct; rw [← hpe]; simp [hch, hc3]
          refine ar_go M_B_put 2 _ 90 _ [some (.ref 0), some (.int (nI b)), some (.int (nI k)), some (.int gr), some (.ref (40 + 4 * b)), some (.int (nI p)), some (.int (nI 1)), some (.int (nI 0)), none] _ [.int (nI 500), .int (nI 0)] rfl ?_
          refine ar_icmp M_B_put rfl rfl (fun _ => ?_) (fun z => absurd z (by decide))
          have hcte : ct (B b) k = 0 := by unfold ct; rw [← hpe]; simp [hch]
          have hctl := ct_le hV k
          rw [hcte] at hctl
          refine ar_go M_B_put 2 _ 99 _ [some (.ref 0), some (.int (nI b)), some (.int (nI k)), some (.int gr), some (.ref (40 + 4 * b)), some (.int (nI p)), some (.int (nI 1)), some (.int (nI 0)), none] _ [.int (nI 0), .int (nI b)] rfl ?_
          refine ar_CS M_B_put rfl rfl (Nat.le_of_ble_eq_true rfl) rfl rfl (Nat.le_of_ble_eq_true rfl) M_B_nextVersion (Nat.le_of_ble_eq_true rfl) (c_B_nextVersion X (d + 1) _ (b := b) (c := 0) hb (by omega)) (fun r1 h1 hq => ?_)
          obtain ⟨rfl, rfl⟩ := hq
          refine ⟨rfl, ?_⟩
          show ar Pg _ _ _ 102 [some (.ref 0), some (.int (nI b)), some (.int (nI k)), some (.int gr), some (.ref (40 + 4 * b)), some (.int (nI p)), some (.int (nI 1)), some (.int (nI 0)), none] [.int (nI (vr b 0))] _ _
          have hvr : vr b 0 < 1002 ∧ 2 ≤ vr b 0 := by unfold vr; omega
          refine ar_go M_B_put 4 _ 109 _ [some (.ref 0), some (.int (nI b)), some (.int (nI k)), some (.int gr), some (.ref (40 + 4 * b)), some (.int (nI p)), some (.int (nI 1)), some (.int (nI 0)), some (.int (nI (vr b 0)))] _ [.int (nI (vr b 0)), .int (nI k), .ref (40 + 4 * b)] rfl ?_
          refine ar_CS M_B_put rfl rfl (Nat.le_of_ble_eq_true rfl) rfl rfl (Nat.le_of_ble_eq_true rfl) M_B_wordOf (Nat.le_of_ble_eq_true rfl) (c_B_wordOf X (d + 1) _ (k := k) (c := vr b 0)) (fun r1 h1 hq => ?_)
          obtain ⟨rfl, rfl⟩ := hq
          refine ⟨rfl, ?_⟩
          show ar Pg _ _ _ 112 [some (.ref 0), some (.int (nI b)), some (.int (nI k)), some (.int gr), some (.ref (40 + 4 * b)), some (.int (nI p)), some (.int (nI 1)), some (.int (nI 0)), some (.int (nI (vr b 0)))] [.int (nI (1024 * k + vr b 0)), .ref (40 + 4 * b)] _ _
          refine ar_go M_B_put 2 _ 114 _ [some (.ref 0), some (.int (nI b)), some (.int (nI k)), some (.int gr), some (.ref (40 + 4 * b)), some (.int (nI p)), some (.int (nI 1)), some (.int (nI 0)), some (.int (nI (vr b 0)))] _ [.int (nI 0), .int gr, .int (nI (1024 * k + vr b 0)), .ref (40 + 4 * b)] rfl ?_
          have hst := c_R_store X d _ (gr := gr) (bb := false) (W := 1024 * k + vr b 0) hR0 (by omega) hS hW (by omega)
          refine ar_CV M_B_put rfl rfl (Or.inl rfl) rfl rfl (Nat.le_of_ble_eq_true rfl) hr M_R_store (Nat.le_of_ble_eq_true rfl) hst (fun r1 h2 hq => ?_)
          obtain ⟨rfl, hf, hR1⟩ := hq
          refine ⟨hf.1, ?_⟩
          show ar Pg _ _ _ 117 [some (.ref 0), some (.int (nI b)), some (.int (nI k)), some (.int gr), some (.ref (40 + 4 * b)), some (.int (nI p)), some (.int (nI 1)), some (.int (nI 0)), some (.int (nI (vr b 0)))] [] _ _
          refine ar_go M_B_put 1 _ 119 _ [some (.ref 0), some (.int (nI b)), some (.int (nI k)), some (.int gr), some (.ref (40 + 4 * b)), some (.int (nI p)), some (.int (nI 1)), some (.int (nI 0)), some (.int (nI (vr b 0)))] _ [.int (nI (vr b 0))] rfl ?_
          have hvv := stR_V hS hV (e := (1024 * k + vr b 0, gr, false)) ⟨by simp only; omega, by simp only; omega, by simp only; omega⟩
          exact ar_R M_B_put rfl rfl rfl rfl ⟨by rw [show ptR B (nI b) (nI k) = _ from onB_in hb hk _ _, if_neg (by rw [hfu]; decide), hcte], by rw [show ptB B (nI b) (nI k) gr = _ from onB_in hb hk _ _, if_neg (by rw [hfu]; decide), hcte]; exact hC0.bank hb hf hR1 (stR_S hS _) hvv, hf.mono (bank_cl hb)⟩
    · have hc2 := bi_ne_f hc2
      refine ar_go M_B_put 1 _ 15 _ [some (.ref 0), some (.int v), some (.int w), some (.int gr), none, none, none, none, none] _ [.int (-1)] rfl ?_
      exact ar_R M_B_put rfl rfl rfl rfl (⟨by rw [show ptR B v w = _ from onB_o2 hc2 _ _] <;> rfl, by rw [show ptB B v w gr = B from onB_o2 hc2 _ _]; exact hC0, fr.rf _ _⟩)
theorem c_B_drop (X : am_X) (d : Nat) (h : am_H) {B : Nat → Bk} {s : Int64} {u : Nat} {U : Nat → Nat} {l : Nat} {W : Nat → Nat} (hC : isCl h B s u U l W) (v w : Int32) : ar Pg X (d + 1 + 1) n_B_drop 0 [some (.ref 0), some (.int v), some (.int w), none, none, none, none] [] h (fun rr h' => rr = some (.int (dpR B v w)) ∧ isCl h' (dpB B v w) s u U l W ∧ fr clL h h') := by
  have hC0 := hC
  obtain ⟨h0, ⟨bf, hb1, hbf⟩, hK, hX, hPr⟩ := hC
  have h0 : h[0]? = some (.inr (0, [.ref 1, .ref 2, .ref 6, .ref 10, .long s])) := h0
  refine ar_go M_B_drop 1 _ 1 _ [some (.ref 0), some (.int v), some (.int w), none, none, none, none] _ [.int v] rfl ?_
  refine ar_CS M_B_drop rfl rfl (Nat.le_of_ble_eq_true rfl) rfl rfl (Nat.le_of_ble_eq_true rfl) M_B_isBank (Nat.le_of_ble_eq_true rfl) (c_B_isBank X (d + 1) _ v) (fun r1 h1 hq => ?_)
  obtain ⟨rfl, rfl⟩ := hq
  refine ⟨rfl, ?_⟩
  show ar Pg _ _ _ 4 [some (.ref 0), some (.int v), some (.int w), none, none, none, none] [.int (bi (rng 4 v))] _ _
  refine ar_if M_B_drop rfl rfl (fun hc1 => ?_) (fun hc1 => ?_)
  · have hc1 := bi_eq_t hc1
    refine ar_go M_B_drop 1 _ 15 _ [some (.ref 0), some (.int v), some (.int w), none, none, none, none] _ [.int (-1)] rfl ?_
    exact ar_R M_B_drop rfl rfl rfl rfl (⟨by rw [show dpR B v w = _ from onB_o1 hc1 _ _] <;> rfl, by rw [show dpB B v w = B from onB_o1 hc1 _ _]; exact hC0, fr.rf _ _⟩)
  · have hc1 := bi_eq_f hc1
    refine ar_go M_B_drop 1 _ 8 _ [some (.ref 0), some (.int v), some (.int w), none, none, none, none] _ [.int w] rfl ?_
    refine ar_CS M_B_drop rfl rfl (Nat.le_of_ble_eq_true rfl) rfl rfl (Nat.le_of_ble_eq_true rfl) M_B_isNumber (Nat.le_of_ble_eq_true rfl) (c_B_isNumber X (d + 1) _ w) (fun r1 h1 hq => ?_)
    obtain ⟨rfl, rfl⟩ := hq
    refine ⟨rfl, ?_⟩
    show ar Pg _ _ _ 11 [some (.ref 0), some (.int v), some (.int w), none, none, none, none] [.int (bi (rng 10000 w))] _ _
    refine ar_if M_B_drop rfl rfl (fun hc2 => ?_) (fun hc2 => ?_)
    · have hc2 := bi_ne_t hc2
      obtain ⟨b, hb, rfl⟩ := rng_ex (by decide) hc1
      obtain ⟨k, hk, rfl⟩ := rng_ex (by decide) hc2
      obtain ⟨hR, hS, hV⟩ := hK b hb
      have hW := hV.W
      have hR0 := hR
      obtain ⟨hlen, hr, f, g, m, hw, hg, hm, hfa⟩ := hR
      have hpl := pos_pl (B b) k hS
      obtain ⟨p, hpe⟩ : ∃ p, p = pos (B b) k := ⟨_, rfl⟩
      rw [← hpe] at hpl
      have hpl1 := hpl.1
      refine ar_go M_B_drop 1 _ 17 _ [some (.ref 0), some (.int (nI b)), some (.int (nI k)), none, none, none, none] _ [.ref 0] rfl ?_
      refine ar_get M_B_drop rfl rfl h0 rfl ?_
      refine ar_go M_B_drop 1 _ 21 _ [some (.ref 0), some (.int (nI b)), some (.int (nI k)), none, none, none, none] _ [.int (nI b), .ref 1] rfl ?_
      refine ar_aald M_B_drop rfl hb1 (Or.inr rfl) (vp_in_nI (by omega) (by decide)) (by rw [nI_clamp (n := b) (by omega)]; exact hbf b (by omega)) ?_
      refine ar_go M_B_drop 3 _ 25 _ [some (.ref 0), some (.int (nI b)), some (.int (nI k)), some (.ref (40 + 4 * b)), none, none, none] _ [.int (nI k), .ref (40 + 4 * b)] rfl ?_
      refine ar_CV M_B_drop rfl rfl (Or.inl rfl) rfl rfl (Nat.le_of_ble_eq_true rfl) hr M_R_placeOf (Nat.le_of_ble_eq_true rfl) (c_R_pos X (d + 1) _ hR0 (by omega) hS hW (by omega)) (fun r1 h1 hq => ?_)
      obtain ⟨rfl, rfl⟩ := hq
      refine ⟨rfl, ?_⟩
      rw [← hpe]
      show ar Pg _ _ _ 28 [some (.ref 0), some (.int (nI b)), some (.int (nI k)), some (.ref (40 + 4 * b)), none, none, none] [.int (nI p)] _ _
      refine ar_go M_B_drop 4 _ 34 _ [some (.ref 0), some (.int (nI b)), some (.int (nI k)), some (.ref (40 + 4 * b)), some (.int (nI p)), none, none] _ [.int (nI k), .int (nI p), .ref (40 + 4 * b)] rfl ?_
      refine ar_CV M_B_drop rfl rfl (Or.inl rfl) rfl rfl (Nat.le_of_ble_eq_true rfl) hr M_R_holdsAt (Nat.le_of_ble_eq_true rfl) (c_R_holdsAt X (d + 1) _ hR0 (by omega) hW (by omega) (by omega)) (fun r1 h1 hq => ?_)
      obtain ⟨rfl, rfl⟩ := hq
      refine ⟨rfl, ?_⟩
      show ar Pg _ _ _ 37 [some (.ref 0), some (.int (nI b)), some (.int (nI k)), some (.ref (40 + 4 * b)), some (.int (nI p)), none, none] [.int (bi (hasAt (B b) p k))] _ _
      refine ar_if M_B_drop rfl rfl (fun hc => ?_) (fun hc => ?_)
      · have hc := bi_eq_t hc
        have hdn : dpN (B b) k = true := by unfold dpN; rw [← hpe]; simp [hc]
        refine ar_go M_B_drop 1 _ 52 _ [some (.ref 0), some (.int (nI b)), some (.int (nI k)), some (.ref (40 + 4 * b)), some (.int (nI p)), none, none] _ [.int (-2)] rfl ?_
        exact ar_R M_B_drop rfl rfl rfl rfl (⟨by rw [show dpR B (nI b) (nI k) = _ from onB_in hb hk _ _, if_pos hdn] <;> rfl, by rw [show dpB B (nI b) (nI k) = _ from onB_in hb hk _ _, if_pos hdn]; exact hC0, fr.rf _ _⟩)
      · have hc := bi_eq_f hc
        have hch := hc
        have hh := hasAt_iff.mp hc
        have hwp := hW p hh.1
        have hvp := hV p hh.1
        refine ar_go M_B_drop 1 _ 41 _ [some (.ref 0), some (.int (nI b)), some (.int (nI k)), some (.ref (40 + 4 * b)), some (.int (nI p)), none, none] _ [.ref (40 + 4 * b)] rfl ?_
        refine ar_get M_B_drop rfl rfl hr rfl ?_
        refine ar_go M_B_drop 1 _ 46 _ [some (.ref 0), some (.int (nI b)), some (.int (nI k)), some (.ref (40 + 4 * b)), some (.int (nI p)), none, none] _ [.int (nI p), .ref ((40 + 4 * b) + 3)] rfl ?_
        refine ar_zald M_B_drop rfl hm (vp_in_nI (by omega) (by decide)) ?_
        rw [nI_clamp (n := p) (by omega)]
        refine ar_top (w := .int (bi (dd (B b) p))) (congrArg Value.int ((hfa p (by omega)).2.2)) ?_
        refine ar_if M_B_drop rfl rfl (fun hc4 => ?_) (fun hc4 => ?_)
        · have hc4 := bi_eq_t hc4
          have hdn : dpN (B b) k = false := by unfold dpN; rw [← hpe]; simp [hch, hc4]
          refine ar_go M_B_drop 2 _ 56 _ [some (.ref 0), some (.int (nI b)), some (.int (nI k)), some (.ref (40 + 4 * b)), some (.int (nI p)), none, none] _ [.int (nI p), .ref (40 + 4 * b)] rfl ?_
          refine ar_CV M_B_drop rfl rfl (Or.inl rfl) rfl rfl (Nat.le_of_ble_eq_true rfl) hr M_R_versionAt (Nat.le_of_ble_eq_true rfl) (c_R_versionAt X (d + 1) _ hR0 (by omega) hW hh.1) (fun r1 h1 hq => ?_)
          obtain ⟨rfl, rfl⟩ := hq
          refine ⟨rfl, ?_⟩
          show ar Pg _ _ _ 59 [some (.ref 0), some (.int (nI b)), some (.int (nI k)), some (.ref (40 + 4 * b)), some (.int (nI p)), none, none] [.int (nI (wd (B b) p % 1024))] _ _
          refine ar_go M_B_drop 1 _ 60 _ [some (.ref 0), some (.int (nI b)), some (.int (nI k)), some (.ref (40 + 4 * b)), some (.int (nI p)), none, none] _ [.int (nI 2), .int (nI (wd (B b) p % 1024))] rfl ?_
          refine ar_idiv M_B_drop rfl (by decide) ?_
          refine ar_top (w := .int (nI ((wd (B b) p % 1024) / 2))) (congrArg Value.int (pk_div (by omega) (by decide) (by decide))) ?_
          refine ar_go M_B_drop 3 _ 68 _ [some (.ref 0), some (.int (nI b)), some (.int (nI k)), some (.ref (40 + 4 * b)), some (.int (nI p)), some (.int (nI ((wd (B b) p % 1024) / 2))), none] _ [.int (nI 500), .int (nI ((wd (B b) p % 1024) / 2))] rfl ?_
          refine ar_icmp M_B_drop rfl rfl (fun hc3 => ?_) (fun hc3 => ?_)
          · have hc3 := c2_ne_t (a := ((wd (B b) p % 1024) / 2)) (b := 500) (by omega) (by omega) hc3
            have hcte : ct (B b) k = wd (B b) p % 1024 / 2 := by unfold ct; rw [← hpe]; simp [hch]
            have hctl := ct_le hV k
            rw [hcte] at hctl
            refine ar_go M_B_drop 2 _ 77 _ [some (.ref 0), some (.int (nI b)), some (.int (nI k)), some (.ref (40 + 4 * b)), some (.int (nI p)), some (.int (nI ((wd (B b) p % 1024) / 2))), none] _ [.int (nI ((wd (B b) p % 1024) / 2)), .int (nI b)] rfl ?_
            refine ar_CS M_B_drop rfl rfl (Nat.le_of_ble_eq_true rfl) rfl rfl (Nat.le_of_ble_eq_true rfl) M_B_nextVersion (Nat.le_of_ble_eq_true rfl) (c_B_nextVersion X (d + 1) _ (b := b) (c := wd (B b) p % 1024 / 2) hb (by omega)) (fun r1 h1 hq => ?_)
            obtain ⟨rfl, rfl⟩ := hq
            refine ⟨rfl, ?_⟩
            show ar Pg _ _ _ 80 [some (.ref 0), some (.int (nI b)), some (.int (nI k)), some (.ref (40 + 4 * b)), some (.int (nI p)), some (.int (nI ((wd (B b) p % 1024) / 2))), none] [.int (nI (vr b (wd (B b) p % 1024 / 2)))] _ _
            have hvr : vr b (wd (B b) p % 1024 / 2) < 1002 ∧ 2 ≤ vr b (wd (B b) p % 1024 / 2) := by unfold vr; omega
            refine ar_go M_B_drop 4 _ 86 _ [some (.ref 0), some (.int (nI b)), some (.int (nI k)), some (.ref (40 + 4 * b)), some (.int (nI p)), some (.int (nI ((wd (B b) p % 1024) / 2))), some (.int (nI (vr b (wd (B b) p % 1024 / 2))))] _ [.int (nI (vr b (wd (B b) p % 1024 / 2))), .int (nI k), .ref (40 + 4 * b)] rfl ?_
            refine ar_CS M_B_drop rfl rfl (Nat.le_of_ble_eq_true rfl) rfl rfl (Nat.le_of_ble_eq_true rfl) M_B_wordOf (Nat.le_of_ble_eq_true rfl) (c_B_wordOf X (d + 1) _ (k := k) (c := vr b (wd (B b) p % 1024 / 2))) (fun r1 h1 hq => ?_)
            obtain ⟨rfl, rfl⟩ := hq
            refine ⟨rfl, ?_⟩
            show ar Pg _ _ _ 89 [some (.ref 0), some (.int (nI b)), some (.int (nI k)), some (.ref (40 + 4 * b)), some (.int (nI p)), some (.int (nI ((wd (B b) p % 1024) / 2))), some (.int (nI (vr b (wd (B b) p % 1024 / 2))))] [.int (nI (1024 * k + vr b (wd (B b) p % 1024 / 2))), .ref (40 + 4 * b)] _ _
            refine ar_go M_B_drop 1 _ 90 _ [some (.ref 0), some (.int (nI b)), some (.int (nI k)), some (.ref (40 + 4 * b)), some (.int (nI p)), some (.int (nI ((wd (B b) p % 1024) / 2))), some (.int (nI (vr b (wd (B b) p % 1024 / 2))))] _ [.ref (40 + 4 * b), .int (nI (1024 * k + vr b (wd (B b) p % 1024 / 2))), .ref (40 + 4 * b)] rfl ?_
            refine ar_get M_B_drop rfl rfl hr rfl ?_
            refine ar_go M_B_drop 1 _ 95 _ [some (.ref 0), some (.int (nI b)), some (.int (nI k)), some (.ref (40 + 4 * b)), some (.int (nI p)), some (.int (nI ((wd (B b) p % 1024) / 2))), some (.int (nI (vr b (wd (B b) p % 1024 / 2))))] _ [.int (nI p), .ref ((40 + 4 * b) + 2), .int (nI (1024 * k + vr b (wd (B b) p % 1024 / 2))), .ref (40 + 4 * b)] rfl ?_
            refine ar_iald M_B_drop rfl (by unfold am_x0; omega) hg (vp_in_nI (by omega) (by decide)) ?_
            rw [nI_clamp (n := p) (by omega)]
            refine ar_top (w := .int (gd (B b) p)) (congrArg Value.int ((hfa p (by omega)).2.1)) ?_
            refine ar_go M_B_drop 1 _ 97 _ [some (.ref 0), some (.int (nI b)), some (.int (nI k)), some (.ref (40 + 4 * b)), some (.int (nI p)), some (.int (nI ((wd (B b) p % 1024) / 2))), some (.int (nI (vr b (wd (B b) p % 1024 / 2))))] _ [.int (nI 1), .int (gd (B b) p), .int (nI (1024 * k + vr b (wd (B b) p % 1024 / 2))), .ref (40 + 4 * b)] rfl ?_
            have hst := c_R_store X d _ (gr := gd (B b) p) (bb := true) (W := 1024 * k + vr b (wd (B b) p % 1024 / 2)) hR0 (by omega) hS hW (by omega)
            refine ar_CV M_B_drop rfl rfl (Or.inl rfl) rfl rfl (Nat.le_of_ble_eq_true rfl) hr M_R_store (Nat.le_of_ble_eq_true rfl) hst (fun r1 h2 hq => ?_)
            obtain ⟨rfl, hf, hR1⟩ := hq
            refine ⟨hf.1, ?_⟩
            show ar Pg _ _ _ 100 [some (.ref 0), some (.int (nI b)), some (.int (nI k)), some (.ref (40 + 4 * b)), some (.int (nI p)), some (.int (nI ((wd (B b) p % 1024) / 2))), some (.int (nI (vr b (wd (B b) p % 1024 / 2))))] [] _ _
            refine ar_go M_B_drop 1 _ 102 _ [some (.ref 0), some (.int (nI b)), some (.int (nI k)), some (.ref (40 + 4 * b)), some (.int (nI p)), some (.int (nI ((wd (B b) p % 1024) / 2))), some (.int (nI (vr b (wd (B b) p % 1024 / 2))))] _ [.int (nI (vr b (wd (B b) p % 1024 / 2)))] rfl ?_
            have hvv := stR_V hS hV (e := (1024 * k + vr b (wd (B b) p % 1024 / 2), gd (B b) p, true)) ⟨by simp only; omega, by simp only; omega, by simp only; omega⟩
            exact ar_R M_B_drop rfl rfl rfl rfl ⟨by rw [show dpR B (nI b) (nI k) = _ from onB_in hb hk _ _, if_neg (by rw [hdn]; decide), if_neg (by rw [hcte]; omega), hcte], by rw [show dpB B (nI b) (nI k) = _ from onB_in hb hk _ _, if_neg (by rw [hdn]; decide), if_neg (by rw [hcte]; omega), hcte, ← hpe]; exact hC0.bank hb hf hR1 (stR_S hS _) hvv, hf.mono (bank_cl hb)⟩
          · have hc3 := c2_ne_f (a := ((wd (B b) p % 1024) / 2)) (b := 500) (by omega) (by omega) hc3
            have hcte : ct (B b) k = 500 := by unfold ct; rw [← hpe]; simp [hch]; omega
            refine ar_go M_B_drop 1 _ 73 _ [some (.ref 0), some (.int (nI b)), some (.int (nI k)), some (.ref (40 + 4 * b)), some (.int (nI p)), some (.int (nI ((wd (B b) p % 1024) / 2))), none] _ [.int (-3)] rfl ?_
            exact ar_R M_B_drop rfl rfl rfl rfl (⟨by rw [show dpR B (nI b) (nI k) = _ from onB_in hb hk _ _, if_neg (by rw [hdn]; decide), if_pos hcte] <;> rfl, by rw [show dpB B (nI b) (nI k) = _ from onB_in hb hk _ _, if_neg (by rw [hdn]; decide), if_pos hcte]; exact hC0, fr.rf _ _⟩)
        · have hc4 := bi_eq_f hc4
          have hdn : dpN (B b) k = true := by unfold dpN; rw [← hpe]; simp [hc4]
          refine ar_go M_B_drop 1 _ 52 _ [some (.ref 0), some (.int (nI b)), some (.int (nI k)), some (.ref (40 + 4 * b)), some (.int (nI p)), none, none] _ [.int (-2)] rfl ?_
          exact ar_R M_B_drop rfl rfl rfl rfl (⟨by rw [show dpR B (nI b) (nI k) = _ from onB_in hb hk _ _, if_pos hdn] <;> rfl, by rw [show dpB B (nI b) (nI k) = _ from onB_in hb hk _ _, if_pos hdn]; exact hC0, fr.rf _ _⟩)
    · have hc2 := bi_ne_f hc2
      refine ar_go M_B_drop 1 _ 15 _ [some (.ref 0), some (.int v), some (.int w), none, none, none, none] _ [.int (-1)] rfl ?_
      exact ar_R M_B_drop rfl rfl rfl rfl (⟨by rw [show dpR B v w = _ from onB_o2 hc2 _ _] <;> rfl, by rw [show dpB B v w = B from onB_o2 hc2 _ _]; exact hC0, fr.rf _ _⟩)
theorem c_B_version (X : am_X) (d : Nat) (h : am_H) {B : Nat → Bk} {s : Int64} {u : Nat} {U : Nat → Nat} {l : Nat} {W : Nat → Nat} (hC : isCl h B s u U l W) (v w : Int32) : ar Pg X (d + 1 + 1) n_B_version 0 [some (.ref 0), some (.int v), some (.int w), none, none, none] [] h (fun rr h' => rr = some (.int (vsR B v w)) ∧ h' = h) := by
  have hC0 := hC
  obtain ⟨h0, ⟨bf, hb1, hbf⟩, hK, hX, hPr⟩ := hC
  have h0 : h[0]? = some (.inr (0, [.ref 1, .ref 2, .ref 6, .ref 10, .long s])) := h0
  refine ar_go M_B_version 1 _ 1 _ [some (.ref 0), some (.int v), some (.int w), none, none, none] _ [.int v] rfl ?_
  refine ar_CS M_B_version rfl rfl (Nat.le_of_ble_eq_true rfl) rfl rfl (Nat.le_of_ble_eq_true rfl) M_B_isBank (Nat.le_of_ble_eq_true rfl) (c_B_isBank X (d + 1) _ v) (fun r1 h1 hq => ?_)
  obtain ⟨rfl, rfl⟩ := hq
  refine ⟨rfl, ?_⟩
  show ar Pg _ _ _ 4 [some (.ref 0), some (.int v), some (.int w), none, none, none] [.int (bi (rng 4 v))] _ _
  refine ar_if M_B_version rfl rfl (fun hc1 => ?_) (fun hc1 => ?_)
  · have hc1 := bi_eq_t hc1
    refine ar_go M_B_version 1 _ 15 _ [some (.ref 0), some (.int v), some (.int w), none, none, none] _ [.int (-1)] rfl ?_
    exact ar_R M_B_version rfl rfl rfl rfl (⟨by rw [show vsR B v w = _ from onB_o1 hc1 _ _] <;> rfl, rfl⟩)
  · have hc1 := bi_eq_f hc1
    refine ar_go M_B_version 1 _ 8 _ [some (.ref 0), some (.int v), some (.int w), none, none, none] _ [.int w] rfl ?_
    refine ar_CS M_B_version rfl rfl (Nat.le_of_ble_eq_true rfl) rfl rfl (Nat.le_of_ble_eq_true rfl) M_B_isNumber (Nat.le_of_ble_eq_true rfl) (c_B_isNumber X (d + 1) _ w) (fun r1 h1 hq => ?_)
    obtain ⟨rfl, rfl⟩ := hq
    refine ⟨rfl, ?_⟩
    show ar Pg _ _ _ 11 [some (.ref 0), some (.int v), some (.int w), none, none, none] [.int (bi (rng 10000 w))] _ _
    refine ar_if M_B_version rfl rfl (fun hc2 => ?_) (fun hc2 => ?_)
    · have hc2 := bi_ne_t hc2
      obtain ⟨b, hb, rfl⟩ := rng_ex (by decide) hc1
      obtain ⟨k, hk, rfl⟩ := rng_ex (by decide) hc2
      obtain ⟨hR, hS, hV⟩ := hK b hb
      have hW := hV.W
      have hR0 := hR
      obtain ⟨hlen, hr, f, g, m, hw, hg, hm, hfa⟩ := hR
      have hpl := pos_pl (B b) k hS
      obtain ⟨p, hpe⟩ : ∃ p, p = pos (B b) k := ⟨_, rfl⟩
      rw [← hpe] at hpl
      have hpl1 := hpl.1
      refine ar_go M_B_version 1 _ 17 _ [some (.ref 0), some (.int (nI b)), some (.int (nI k)), none, none, none] _ [.ref 0] rfl ?_
      refine ar_get M_B_version rfl rfl h0 rfl ?_
      refine ar_go M_B_version 1 _ 21 _ [some (.ref 0), some (.int (nI b)), some (.int (nI k)), none, none, none] _ [.int (nI b), .ref 1] rfl ?_
      refine ar_aald M_B_version rfl hb1 (Or.inr rfl) (vp_in_nI (by omega) (by decide)) (by rw [nI_clamp (n := b) (by omega)]; exact hbf b (by omega)) ?_
      refine ar_go M_B_version 3 _ 25 _ [some (.ref 0), some (.int (nI b)), some (.int (nI k)), some (.ref (40 + 4 * b)), none, none] _ [.int (nI k), .ref (40 + 4 * b)] rfl ?_
      refine ar_CV M_B_version rfl rfl (Or.inl rfl) rfl rfl (Nat.le_of_ble_eq_true rfl) hr M_R_placeOf (Nat.le_of_ble_eq_true rfl) (c_R_pos X (d + 1) _ hR0 (by omega) hS hW (by omega)) (fun r1 h1 hq => ?_)
      obtain ⟨rfl, rfl⟩ := hq
      refine ⟨rfl, ?_⟩
      rw [← hpe]
      show ar Pg _ _ _ 28 [some (.ref 0), some (.int (nI b)), some (.int (nI k)), some (.ref (40 + 4 * b)), none, none] [.int (nI p)] _ _
      refine ar_go M_B_version 4 _ 34 _ [some (.ref 0), some (.int (nI b)), some (.int (nI k)), some (.ref (40 + 4 * b)), some (.int (nI p)), none] _ [.int (nI k), .int (nI p), .ref (40 + 4 * b)] rfl ?_
      refine ar_CV M_B_version rfl rfl (Or.inl rfl) rfl rfl (Nat.le_of_ble_eq_true rfl) hr M_R_holdsAt (Nat.le_of_ble_eq_true rfl) (c_R_holdsAt X (d + 1) _ hR0 (by omega) hW (by omega) (by omega)) (fun r1 h1 hq => ?_)
      obtain ⟨rfl, rfl⟩ := hq
      refine ⟨rfl, ?_⟩
      show ar Pg _ _ _ 37 [some (.ref 0), some (.int (nI b)), some (.int (nI k)), some (.ref (40 + 4 * b)), some (.int (nI p)), none] [.int (bi (hasAt (B b) p k))] _ _
      refine ar_if M_B_version rfl rfl (fun hc => ?_) (fun hc => ?_)
      · have hc := bi_ne_t hc
        have hh := hasAt_iff.mp hc
        have hwp := hW p hh.1
        refine ar_go M_B_version 2 _ 45 _ [some (.ref 0), some (.int (nI b)), some (.int (nI k)), some (.ref (40 + 4 * b)), some (.int (nI p)), none] _ [.int (nI p), .ref (40 + 4 * b)] rfl ?_
        refine ar_CV M_B_version rfl rfl (Or.inl rfl) rfl rfl (Nat.le_of_ble_eq_true rfl) hr M_R_versionAt (Nat.le_of_ble_eq_true rfl) (c_R_versionAt X (d + 1) _ hR0 (by omega) hW hh.1) (fun r1 h1 hq => ?_)
        obtain ⟨rfl, rfl⟩ := hq
        refine ⟨rfl, ?_⟩
        show ar Pg _ _ _ 48 [some (.ref 0), some (.int (nI b)), some (.int (nI k)), some (.ref (40 + 4 * b)), some (.int (nI p)), none] [.int (nI (wd (B b) p % 1024))] _ _
        refine ar_go M_B_version 2 _ 51 _ [some (.ref 0), some (.int (nI b)), some (.int (nI k)), some (.ref (40 + 4 * b)), some (.int (nI p)), some (.int (nI (wd (B b) p % 1024)))] _ [.ref (40 + 4 * b)] rfl ?_
        refine ar_get M_B_version rfl rfl hr rfl ?_
        refine ar_go M_B_version 1 _ 56 _ [some (.ref 0), some (.int (nI b)), some (.int (nI k)), some (.ref (40 + 4 * b)), some (.int (nI p)), some (.int (nI (wd (B b) p % 1024)))] _ [.int (nI p), .ref ((40 + 4 * b) + 3)] rfl ?_
        refine ar_zald M_B_version rfl hm (vp_in_nI (by omega) (by decide)) ?_
        rw [nI_clamp (n := p) (by omega)]
        refine ar_top (w := .int (bi (dd (B b) p))) (congrArg Value.int ((hfa p (by omega)).2.2)) ?_
        refine ar_if M_B_version rfl rfl (fun hc4 => ?_) (fun hc4 => ?_)
        · have hc4 := bi_eq_t hc4
          refine ar_go M_B_version 1 _ 68 _ [some (.ref 0), some (.int (nI b)), some (.int (nI k)), some (.ref (40 + 4 * b)), some (.int (nI p)), some (.int (nI (wd (B b) p % 1024)))] _ [.int (nI (wd (B b) p % 1024))] rfl ?_
          exact ar_R M_B_version rfl rfl rfl rfl (⟨by rw [show vsR B (nI b) (nI k) = _ from onB_in hb hk _ _, ← hpe, if_pos hc, if_neg (by rw [hc4]; decide)], rfl⟩)
        · have hc4 := bi_eq_f hc4
          refine ar_go M_B_version 3 _ 68 _ [some (.ref 0), some (.int (nI b)), some (.int (nI k)), some (.ref (40 + 4 * b)), some (.int (nI p)), some (.int (nI (wd (B b) p % 1024)))] _ [.int (-(nI (wd (B b) p % 1024)))] rfl ?_
          exact ar_R M_B_version rfl rfl rfl rfl (⟨by rw [show vsR B (nI b) (nI k) = _ from onB_in hb hk _ _, ← hpe, if_pos hc, if_pos hc4], rfl⟩)
      · have hc := bi_ne_f hc
        refine ar_go M_B_version 1 _ 41 _ [some (.ref 0), some (.int (nI b)), some (.int (nI k)), some (.ref (40 + 4 * b)), some (.int (nI p)), none] _ [.int (nI 0)] rfl ?_
        exact ar_R M_B_version rfl rfl rfl rfl (⟨by rw [show vsR B (nI b) (nI k) = _ from onB_in hb hk _ _, ← hpe, if_neg (by rw [hc]; decide)] <;> rfl, rfl⟩)
    · have hc2 := bi_ne_f hc2
      refine ar_go M_B_version 1 _ 15 _ [some (.ref 0), some (.int v), some (.int w), none, none, none] _ [.int (-1)] rfl ?_
      exact ar_R M_B_version rfl rfl rfl rfl (⟨by rw [show vsR B v w = _ from onB_o2 hc2 _ _] <;> rfl, rfl⟩)
theorem c_B_grams (X : am_X) (d : Nat) (h : am_H) {B : Nat → Bk} {s : Int64} {u : Nat} {U : Nat → Nat} {l : Nat} {W : Nat → Nat} (hC : isCl h B s u U l W) (v w : Int32) : ar Pg X (d + 1 + 1) n_B_grams 0 [some (.ref 0), some (.int v), some (.int w), none, none] [] h (fun rr h' => rr = some (.int (grR B v w)) ∧ h' = h) := by
  have hC0 := hC
  obtain ⟨h0, ⟨bf, hb1, hbf⟩, hK, hX, hPr⟩ := hC
  have h0 : h[0]? = some (.inr (0, [.ref 1, .ref 2, .ref 6, .ref 10, .long s])) := h0
  refine ar_go M_B_grams 1 _ 1 _ [some (.ref 0), some (.int v), some (.int w), none, none] _ [.int v] rfl ?_
  refine ar_CS M_B_grams rfl rfl (Nat.le_of_ble_eq_true rfl) rfl rfl (Nat.le_of_ble_eq_true rfl) M_B_isBank (Nat.le_of_ble_eq_true rfl) (c_B_isBank X (d + 1) _ v) (fun r1 h1 hq => ?_)
  obtain ⟨rfl, rfl⟩ := hq
  refine ⟨rfl, ?_⟩
  show ar Pg _ _ _ 4 [some (.ref 0), some (.int v), some (.int w), none, none] [.int (bi (rng 4 v))] _ _
  refine ar_if M_B_grams rfl rfl (fun hc1 => ?_) (fun hc1 => ?_)
  · have hc1 := bi_eq_t hc1
    refine ar_go M_B_grams 1 _ 15 _ [some (.ref 0), some (.int v), some (.int w), none, none] _ [.int (nI 0)] rfl ?_
    exact ar_R M_B_grams rfl rfl rfl rfl (⟨by rw [show grR B v w = _ from onB_o1 hc1 _ _] <;> rfl, rfl⟩)
  · have hc1 := bi_eq_f hc1
    refine ar_go M_B_grams 1 _ 8 _ [some (.ref 0), some (.int v), some (.int w), none, none] _ [.int w] rfl ?_
    refine ar_CS M_B_grams rfl rfl (Nat.le_of_ble_eq_true rfl) rfl rfl (Nat.le_of_ble_eq_true rfl) M_B_isNumber (Nat.le_of_ble_eq_true rfl) (c_B_isNumber X (d + 1) _ w) (fun r1 h1 hq => ?_)
    obtain ⟨rfl, rfl⟩ := hq
    refine ⟨rfl, ?_⟩
    show ar Pg _ _ _ 11 [some (.ref 0), some (.int v), some (.int w), none, none] [.int (bi (rng 10000 w))] _ _
    refine ar_if M_B_grams rfl rfl (fun hc2 => ?_) (fun hc2 => ?_)
    · have hc2 := bi_ne_t hc2
      obtain ⟨b, hb, rfl⟩ := rng_ex (by decide) hc1
      obtain ⟨k, hk, rfl⟩ := rng_ex (by decide) hc2
      obtain ⟨hR, hS, hV⟩ := hK b hb
      have hW := hV.W
      have hR0 := hR
      obtain ⟨hlen, hr, f, g, m, hw, hg, hm, hfa⟩ := hR
      have hpl := pos_pl (B b) k hS
      obtain ⟨p, hpe⟩ : ∃ p, p = pos (B b) k := ⟨_, rfl⟩
      rw [← hpe] at hpl
      have hpl1 := hpl.1
      refine ar_go M_B_grams 1 _ 17 _ [some (.ref 0), some (.int (nI b)), some (.int (nI k)), none, none] _ [.ref 0] rfl ?_
      refine ar_get M_B_grams rfl rfl h0 rfl ?_
      refine ar_go M_B_grams 1 _ 21 _ [some (.ref 0), some (.int (nI b)), some (.int (nI k)), none, none] _ [.int (nI b), .ref 1] rfl ?_
      refine ar_aald M_B_grams rfl hb1 (Or.inr rfl) (vp_in_nI (by omega) (by decide)) (by rw [nI_clamp (n := b) (by omega)]; exact hbf b (by omega)) ?_
      refine ar_go M_B_grams 3 _ 25 _ [some (.ref 0), some (.int (nI b)), some (.int (nI k)), some (.ref (40 + 4 * b)), none] _ [.int (nI k), .ref (40 + 4 * b)] rfl ?_
      refine ar_CV M_B_grams rfl rfl (Or.inl rfl) rfl rfl (Nat.le_of_ble_eq_true rfl) hr M_R_placeOf (Nat.le_of_ble_eq_true rfl) (c_R_pos X (d + 1) _ hR0 (by omega) hS hW (by omega)) (fun r1 h1 hq => ?_)
      obtain ⟨rfl, rfl⟩ := hq
      refine ⟨rfl, ?_⟩
      rw [← hpe]
      show ar Pg _ _ _ 28 [some (.ref 0), some (.int (nI b)), some (.int (nI k)), some (.ref (40 + 4 * b)), none] [.int (nI p)] _ _
      refine ar_go M_B_grams 4 _ 34 _ [some (.ref 0), some (.int (nI b)), some (.int (nI k)), some (.ref (40 + 4 * b)), some (.int (nI p))] _ [.int (nI k), .int (nI p), .ref (40 + 4 * b)] rfl ?_
      refine ar_CV M_B_grams rfl rfl (Or.inl rfl) rfl rfl (Nat.le_of_ble_eq_true rfl) hr M_R_holdsAt (Nat.le_of_ble_eq_true rfl) (c_R_holdsAt X (d + 1) _ hR0 (by omega) hW (by omega) (by omega)) (fun r1 h1 hq => ?_)
      obtain ⟨rfl, rfl⟩ := hq
      refine ⟨rfl, ?_⟩
      show ar Pg _ _ _ 37 [some (.ref 0), some (.int (nI b)), some (.int (nI k)), some (.ref (40 + 4 * b)), some (.int (nI p))] [.int (bi (hasAt (B b) p k))] _ _
      refine ar_if M_B_grams rfl rfl (fun hc => ?_) (fun hc => ?_)
      · have hc := bi_eq_t hc
        refine ar_go M_B_grams 1 _ 51 _ [some (.ref 0), some (.int (nI b)), some (.int (nI k)), some (.ref (40 + 4 * b)), some (.int (nI p))] _ [.int (nI 0)] rfl ?_
        exact ar_R M_B_grams rfl rfl rfl rfl (⟨by rw [show grR B (nI b) (nI k) = _ from onB_in hb hk _ _, ← hpe, if_neg (by rw [hc]; decide)] <;> rfl, rfl⟩)
      · have hc := bi_eq_f hc
        have hh := hasAt_iff.mp hc
        refine ar_go M_B_grams 1 _ 41 _ [some (.ref 0), some (.int (nI b)), some (.int (nI k)), some (.ref (40 + 4 * b)), some (.int (nI p))] _ [.ref (40 + 4 * b)] rfl ?_
        refine ar_get M_B_grams rfl rfl hr rfl ?_
        refine ar_go M_B_grams 1 _ 46 _ [some (.ref 0), some (.int (nI b)), some (.int (nI k)), some (.ref (40 + 4 * b)), some (.int (nI p))] _ [.int (nI p), .ref ((40 + 4 * b) + 2)] rfl ?_
        refine ar_iald M_B_grams rfl (by unfold am_x0; omega) hg (vp_in_nI (by omega) (by decide)) ?_
        rw [nI_clamp (n := p) (by omega)]
        refine ar_top (w := .int (gd (B b) p)) (congrArg Value.int ((hfa p (by omega)).2.1)) ?_
        refine ar_go M_B_grams 1 _ 51 _ [some (.ref 0), some (.int (nI b)), some (.int (nI k)), some (.ref (40 + 4 * b)), some (.int (nI p))] _ [.int (gd (B b) p)] rfl ?_
        exact ar_R M_B_grams rfl rfl rfl rfl (⟨by rw [show grR B (nI b) (nI k) = _ from onB_in hb hk _ _, ← hpe, if_pos hc], rfl⟩)
    · have hc2 := bi_ne_f hc2
      refine ar_go M_B_grams 1 _ 15 _ [some (.ref 0), some (.int v), some (.int w), none, none] _ [.int (nI 0)] rfl ?_
      exact ar_R M_B_grams rfl rfl rfl rfl (⟨by rw [show grR B v w = _ from onB_o2 hc2 _ _] <;> rfl, rfl⟩)
theorem c_B_size (X : am_X) (d : Nat) (h : am_H) {B : Nat → Bk} {s : Int64} {u : Nat} {U : Nat → Nat} {l : Nat} {W : Nat → Nat} (hC : isCl h B s u U l W) (v : Int32) : ar Pg X (d + 1 + 1) n_B_size 0 [some (.ref 0), some (.int v)] [] h (fun rr h' => rr = some (.int (szR B v)) ∧ h' = h) := by
  have hC0 := hC
  obtain ⟨h0, ⟨bf, hb1, hbf⟩, hK, hX, hPr⟩ := hC
  have h0 : h[0]? = some (.inr (0, [.ref 1, .ref 2, .ref 6, .ref 10, .long s])) := h0
  refine ar_go M_B_size 1 _ 1 _ [some (.ref 0), some (.int v)] _ [.int v] rfl ?_
  refine ar_CS M_B_size rfl rfl (Nat.le_of_ble_eq_true rfl) rfl rfl (Nat.le_of_ble_eq_true rfl) M_B_isBank (Nat.le_of_ble_eq_true rfl) (c_B_isBank X (d + 1) _ v) (fun r1 h1 hq => ?_)
  obtain ⟨rfl, rfl⟩ := hq
  refine ⟨rfl, ?_⟩
  show ar Pg _ _ _ 4 [some (.ref 0), some (.int v)] [.int (bi (rng 4 v))] _ _
  refine ar_if M_B_size rfl rfl (fun hc1 => ?_) (fun hc1 => ?_)
  · have hc1 := bi_eq_t hc1
    refine ar_go M_B_size 1 _ 20 _ [some (.ref 0), some (.int v)] _ [.int (-1)] rfl ?_
    exact ar_R M_B_size rfl rfl rfl rfl (⟨by rw [szR, if_neg (by rw [hc1]; decide)] <;> rfl, rfl⟩)
  · have hc1 := bi_eq_f hc1
    have hcc := hc1
    obtain ⟨b, hb, rfl⟩ := rng_ex (by decide) hc1
    obtain ⟨hR, hS, hV⟩ := hK b hb
    have hW := hV.W
    have hR0 := hR
    obtain ⟨hlen, hr, f, g, m, hw, hg, hm, hfa⟩ := hR
    refine ar_go M_B_size 1 _ 8 _ [some (.ref 0), some (.int (nI b))] _ [.ref 0] rfl ?_
    refine ar_get M_B_size rfl rfl h0 rfl ?_
    refine ar_go M_B_size 1 _ 12 _ [some (.ref 0), some (.int (nI b))] _ [.int (nI b), .ref 1] rfl ?_
    refine ar_aald M_B_size rfl hb1 (Or.inr rfl) (vp_in_nI (by omega) (by decide)) (by rw [nI_clamp (n := b) (by omega)]; exact hbf b (by omega)) ?_
    refine ar_get M_B_size rfl rfl hr rfl ?_
    refine ar_go M_B_size 1 _ 20 _ [some (.ref 0), some (.int (nI b))] _ [.int (nI ((B b).length))] rfl ?_
    exact ar_R M_B_size rfl rfl rfl rfl (⟨by rw [szR, if_pos hcc, nI_clamp (by omega)], rfl⟩)
theorem c_B_word (X : am_X) (d : Nat) (h : am_H) {B : Nat → Bk} {s : Int64} {u : Nat} {U : Nat → Nat} {l : Nat} {W : Nat → Nat} (hC : isCl h B s u U l W) (v w : Int32) : ar Pg X (d + 1 + 1) n_B_word 0 [some (.ref 0), some (.int v), some (.int w)] [] h (fun rr h' => rr = some (.int (wdR B v w)) ∧ h' = h) := by
  have hC0 := hC
  obtain ⟨h0, ⟨bf, hb1, hbf⟩, hK, hX, hPr⟩ := hC
  have h0 : h[0]? = some (.inr (0, [.ref 1, .ref 2, .ref 6, .ref 10, .long s])) := h0
  refine ar_go M_B_word 1 _ 1 _ [some (.ref 0), some (.int v), some (.int w)] _ [.int v] rfl ?_
  refine ar_CS M_B_word rfl rfl (Nat.le_of_ble_eq_true rfl) rfl rfl (Nat.le_of_ble_eq_true rfl) M_B_isBank (Nat.le_of_ble_eq_true rfl) (c_B_isBank X (d + 1) _ v) (fun r1 h1 hq => ?_)
  obtain ⟨rfl, rfl⟩ := hq
  refine ⟨rfl, ?_⟩
  show ar Pg _ _ _ 4 [some (.ref 0), some (.int v), some (.int w)] [.int (bi (rng 4 v))] _ _
  refine ar_if M_B_word rfl rfl (fun hc1 => ?_) (fun hc1 => ?_)
  · have hc1 := bi_eq_t hc1
    refine ar_go M_B_word 1 _ 25 _ [some (.ref 0), some (.int v), some (.int w)] _ [.int (-1)] rfl ?_
    exact ar_R M_B_word rfl rfl rfl rfl (⟨by rw [wdR, if_neg (by simp [hc1])] <;> rfl, rfl⟩)
  · have hc1 := bi_eq_f hc1
    have hcc := hc1
    obtain ⟨b, hb, rfl⟩ := rng_ex (by decide) hc1
    obtain ⟨hR, hS, hV⟩ := hK b hb
    have hW := hV.W
    have hR0 := hR
    obtain ⟨hlen, hr, f, g, m, hw, hg, hm, hfa⟩ := hR
    refine ar_go M_B_word 1 _ 8 _ [some (.ref 0), some (.int (nI b)), some (.int w)] _ [.int w] rfl ?_
    refine ar_if M_B_word rfl rfl (fun hc2 => ?_) (fun hc2 => ?_)
    · refine ar_go M_B_word 1 _ 25 _ [some (.ref 0), some (.int (nI b)), some (.int w)] _ [.int (-1)] rfl ?_
      exact ar_R M_B_word rfl rfl rfl rfl (⟨by rw [wdR, if_neg (by simp [nI_clamp (show b < 2 ^ 31 by omega), rng, c2_gl, hc2])] <;> rfl, rfl⟩)
    · refine ar_go M_B_word 2 _ 13 _ [some (.ref 0), some (.int (nI b)), some (.int w)] _ [.ref 0, .int w] rfl ?_
      refine ar_get M_B_word rfl rfl h0 rfl ?_
      refine ar_go M_B_word 1 _ 17 _ [some (.ref 0), some (.int (nI b)), some (.int w)] _ [.int (nI b), .ref 1, .int w] rfl ?_
      refine ar_aald M_B_word rfl hb1 (Or.inr rfl) (vp_in_nI (by omega) (by decide)) (by rw [nI_clamp (n := b) (by omega)]; exact hbf b (by omega)) ?_
      refine ar_get M_B_word rfl rfl hr rfl ?_
      refine ar_icmp M_B_word rfl rfl (fun hc3 => ?_) (fun hc3 => ?_)
      · obtain ⟨k, hk, rfl⟩ := rng_ex (n := (B b).length) (v := w) (by omega) (by simp [rng, c2_gl, hc2, hc3])
        refine ar_go M_B_word 1 _ 27 _ [some (.ref 0), some (.int (nI b)), some (.int (nI k))] _ [.ref 0] rfl ?_
        refine ar_get M_B_word rfl rfl h0 rfl ?_
        refine ar_go M_B_word 1 _ 31 _ [some (.ref 0), some (.int (nI b)), some (.int (nI k))] _ [.int (nI b), .ref 1] rfl ?_
        refine ar_aald M_B_word rfl hb1 (Or.inr rfl) (vp_in_nI (by omega) (by decide)) (by rw [nI_clamp (n := b) (by omega)]; exact hbf b (by omega)) ?_
        refine ar_get M_B_word rfl rfl hr rfl ?_
        refine ar_go M_B_word 1 _ 36 _ [some (.ref 0), some (.int (nI b)), some (.int (nI k))] _ [.int (nI k), .ref ((40 + 4 * b) + 1)] rfl ?_
        refine ar_iald M_B_word rfl (by unfold am_x0; omega) hw (vp_in_nI (by omega) (by decide)) ?_
        rw [nI_clamp (n := k) (by omega)]
        refine ar_top (w := .int (nI (wd (B b) k))) (congrArg Value.int ((hfa k (by omega)).1)) ?_
        exact ar_R M_B_word rfl rfl rfl rfl (⟨by rw [wdR, nI_clamp (show b < 2 ^ 31 by omega), nI_clamp (show k < 2 ^ 31 by omega), if_pos (by rw [hcc, rng_t hk (by omega)]; rfl)], rfl⟩)
      · refine ar_go M_B_word 1 _ 25 _ [some (.ref 0), some (.int (nI b)), some (.int w)] _ [.int (-1)] rfl ?_
        exact ar_R M_B_word rfl rfl rfl rfl (⟨by rw [wdR, if_neg (by simp [nI_clamp (show b < 2 ^ 31 by omega), rng, c2_gl, hc3])] <;> rfl, rfl⟩)
theorem c_B_sample (X : am_X) (d : Nat) (h : am_H) {B : Nat → Bk} {s : Int64} {u : Nat} {U : Nat → Nat} {l : Nat} {W : Nat → Nat} (hC : isCl h B s u U l W) (v w : Int32) : ar Pg X (d + 1 + 1) n_B_sample 0 [some (.ref 0), some (.int v), some (.int w)] [] h (fun rr h' => rr = some (.int (smR B v w)) ∧ h' = h) := by
  have hC0 := hC
  obtain ⟨h0, ⟨bf, hb1, hbf⟩, hK, hX, hPr⟩ := hC
  have h0 : h[0]? = some (.inr (0, [.ref 1, .ref 2, .ref 6, .ref 10, .long s])) := h0
  refine ar_go M_B_sample 1 _ 1 _ [some (.ref 0), some (.int v), some (.int w)] _ [.int v] rfl ?_
  refine ar_CS M_B_sample rfl rfl (Nat.le_of_ble_eq_true rfl) rfl rfl (Nat.le_of_ble_eq_true rfl) M_B_isBank (Nat.le_of_ble_eq_true rfl) (c_B_isBank X (d + 1) _ v) (fun r1 h1 hq => ?_)
  obtain ⟨rfl, rfl⟩ := hq
  refine ⟨rfl, ?_⟩
  show ar Pg _ _ _ 4 [some (.ref 0), some (.int v), some (.int w)] [.int (bi (rng 4 v))] _ _
  refine ar_if M_B_sample rfl rfl (fun hc1 => ?_) (fun hc1 => ?_)
  · have hc1 := bi_eq_t hc1
    refine ar_go M_B_sample 1 _ 18 _ [some (.ref 0), some (.int v), some (.int w)] _ [.int (-1)] rfl ?_
    exact ar_R M_B_sample rfl rfl rfl rfl (⟨by rw [smR, if_neg (by simp [hc1])] <;> rfl, rfl⟩)
  · have hc1 := bi_eq_f hc1
    have hcc := hc1
    obtain ⟨b, hb, rfl⟩ := rng_ex (by decide) hc1
    obtain ⟨hR, hS, hV⟩ := hK b hb
    have hW := hV.W
    have hR0 := hR
    obtain ⟨hlen, hr, f, g, m, hw, hg, hm, hfa⟩ := hR
    refine ar_go M_B_sample 1 _ 8 _ [some (.ref 0), some (.int (nI b)), some (.int w)] _ [.int w] rfl ?_
    refine ar_if M_B_sample rfl rfl (fun hc2 => ?_) (fun hc2 => ?_)
    · refine ar_go M_B_sample 1 _ 18 _ [some (.ref 0), some (.int (nI b)), some (.int w)] _ [.int (-1)] rfl ?_
      exact ar_R M_B_sample rfl rfl rfl rfl (⟨by rw [smR, if_neg (by simp [rng, c2_gl, hc2])] <;> rfl, rfl⟩)
    · refine ar_go M_B_sample 2 _ 14 _ [some (.ref 0), some (.int (nI b)), some (.int w)] _ [.int (nI 18), .int w] rfl ?_
      refine ar_icmp M_B_sample rfl rfl (fun hc3 => ?_) (fun hc3 => ?_)
      · obtain ⟨k, hk, rfl⟩ := rng_ex (n := 18) (v := w) (by omega) (by simp [rng, c2_gl, hc2, hc3])
        refine ar_go M_B_sample 1 _ 20 _ [some (.ref 0), some (.int (nI b)), some (.int (nI k))] _ [.ref 0] rfl ?_
        refine ar_get M_B_sample rfl rfl h0 rfl ?_
        refine ar_go M_B_sample 1 _ 24 _ [some (.ref 0), some (.int (nI b)), some (.int (nI k))] _ [.int (nI b), .ref 1] rfl ?_
        refine ar_aald M_B_sample rfl hb1 (Or.inr rfl) (vp_in_nI (by omega) (by decide)) (by rw [nI_clamp (n := b) (by omega)]; exact hbf b (by omega)) ?_
        refine ar_go M_B_sample 3 _ 30 _ [some (.ref 0), some (.int (nI b)), some (.int (nI k))] _ [.long ((nI k).toInt64), .long (lN 1073741824), .ref (40 + 4 * b)] rfl ?_
        refine ar_top (w := .long (lN k)) (congrArg Value.long (nI_l (by omega))) ?_
        refine ar_go M_B_sample 1 _ 31 _ [some (.ref 0), some (.int (nI b)), some (.int (nI k))] _ [.long (lN 1073741824 + lN k), .ref (40 + 4 * b)] rfl ?_
        refine ar_top (w := .long (lN (1073741824 + k))) (congrArg Value.long (lN_add 1073741824 k)) ?_
        refine ar_CV M_B_sample rfl rfl (Or.inl rfl) rfl rfl (Nat.le_of_ble_eq_true rfl) hr M_R_sampleAt (Nat.le_of_ble_eq_true rfl) (c_R_sampleAt X d _ (x := 1073741824 + k) hR0 (by omega) hW (by omega) (by omega)) (fun r1 h1 hq => ?_)
        obtain ⟨rfl, rfl⟩ := hq
        refine ⟨rfl, ?_⟩
        show ar Pg _ _ _ 34 [some (.ref 0), some (.int (nI b)), some (.int (nI k))] [.long (lN (smp (B b) (1073741824 + k) (B b).length))] _ _
        refine ar_go M_B_sample 1 _ 35 _ [some (.ref 0), some (.int (nI b)), some (.int (nI k))] _ [.int ((lN (smp (B b) (1073741824 + k) (B b).length)).toInt32)] rfl ?_
        refine ar_top (w := .int (nI (smp (B b) (1073741824 + k) (B b).length))) (congrArg Value.int (lN_i (smp (B b) (1073741824 + k) (B b).length))) ?_
        exact ar_R M_B_sample rfl rfl rfl rfl (⟨by rw [smR, nI_clamp (show b < 2 ^ 31 by omega), nI_clamp (show k < 2 ^ 31 by omega), if_pos (by rw [hcc, rng_t hk (by omega)]; rfl)], rfl⟩)
      · refine ar_go M_B_sample 1 _ 18 _ [some (.ref 0), some (.int (nI b)), some (.int w)] _ [.int (-1)] rfl ?_
        exact ar_R M_B_sample rfl rfl rfl rfl (⟨by rw [smR, if_neg (by simp [rng, c2_gl, hc3])] <;> rfl, rfl⟩)
theorem c_B_difference (X : am_X) (d : Nat) (h : am_H) {B : Nat → Bk} {s : Int64} {u : Nat} {U : Nat → Nat} {l : Nat} {W : Nat → Nat} (hC : isCl h B s u U l W) (v w : Int32) : ar Pg X (d + 1 + 1) n_B_difference 0 [some (.ref 0), some (.int v), some (.int w), none, none] [] h (fun rr h' => rr = some (.int (dfR B v w)) ∧ h' = h) := by
  have hC0 := hC
  obtain ⟨h0, ⟨bf, hb1, hbf⟩, hK, hX, hPr⟩ := hC
  have h0 : h[0]? = some (.inr (0, [.ref 1, .ref 2, .ref 6, .ref 10, .long s])) := h0
  refine ar_go M_B_difference 2 _ 2 _ [some (.ref 0), some (.int v), some (.int w), none, none] _ [.int w, .int v] rfl ?_
  refine ar_CS M_B_difference rfl rfl (Nat.le_of_ble_eq_true rfl) rfl rfl (Nat.le_of_ble_eq_true rfl) M_B_areTwoBanks (Nat.le_of_ble_eq_true rfl) (c_B_areTwoBanks X d _ v w) (fun r1 h1 hq => ?_)
  obtain ⟨rfl, rfl⟩ := hq
  refine ⟨rfl, ?_⟩
  show ar Pg _ _ _ 5 [some (.ref 0), some (.int v), some (.int w), none, none] [.int (bi (twB v w))] _ _
  refine ar_if M_B_difference rfl rfl (fun hc1 => ?_) (fun hc1 => ?_)
  · have hc1 := bi_ne_t hc1
    have hcc := hc1
    obtain ⟨b, c, hb, hb2, hne, rfl, rfl⟩ := twB_ex hc1
    obtain ⟨hR, hS, hV⟩ := hK b hb
    have hW := hV.W
    have hR0 := hR
    obtain ⟨hlen, hr, f, g, m, hw, hg, hm, hfa⟩ := hR
    obtain ⟨hR2, hS2, hV2⟩ := hK c hb2
    have hW2 := hV2.W
    have hR02 := hR2
    obtain ⟨hlen2, hr2, f2, g2, m2, hw2, hg2, hm2, hfa2⟩ := hR2
    refine ar_go M_B_difference 1 _ 11 _ [some (.ref 0), some (.int (nI b)), some (.int (nI c)), none, none] _ [.ref 0] rfl ?_
    refine ar_get M_B_difference rfl rfl h0 rfl ?_
    refine ar_go M_B_difference 1 _ 15 _ [some (.ref 0), some (.int (nI b)), some (.int (nI c)), none, none] _ [.int (nI b), .ref 1] rfl ?_
    refine ar_aald M_B_difference rfl hb1 (Or.inr rfl) (vp_in_nI (by omega) (by decide)) (by rw [nI_clamp (n := b) (by omega)]; exact hbf b (by omega)) ?_
    refine ar_go M_B_difference 2 _ 18 _ [some (.ref 0), some (.int (nI b)), some (.int (nI c)), some (.ref (40 + 4 * b)), none] _ [.ref 0] rfl ?_
    refine ar_get M_B_difference rfl rfl h0 rfl ?_
    refine ar_go M_B_difference 1 _ 22 _ [some (.ref 0), some (.int (nI b)), some (.int (nI c)), some (.ref (40 + 4 * b)), none] _ [.int (nI c), .ref 1] rfl ?_
    refine ar_aald M_B_difference rfl hb1 (Or.inr rfl) (vp_in_nI (by omega) (by decide)) (by rw [nI_clamp (n := c) (by omega)]; exact hbf c (by omega)) ?_
    refine ar_go M_B_difference 2 _ 26 _ [some (.ref 0), some (.int (nI b)), some (.int (nI c)), some (.ref (40 + 4 * b)), some (.ref (40 + 4 * c))] _ [.ref (40 + 4 * b)] rfl ?_
    refine ar_get M_B_difference rfl rfl hr rfl ?_
    refine ar_go M_B_difference 1 _ 31 _ [some (.ref 0), some (.int (nI b)), some (.int (nI c)), some (.ref (40 + 4 * b)), some (.ref (40 + 4 * c))] _ [.ref (40 + 4 * c), .int (nI ((B b).length))] rfl ?_
    refine ar_get M_B_difference rfl rfl hr2 rfl ?_
    refine ar_go M_B_difference 1 _ 35 _ [some (.ref 0), some (.int (nI b)), some (.int (nI c)), some (.ref (40 + 4 * b)), some (.ref (40 + 4 * c))] _ [.int (nI ((B b).length) + nI ((B c).length))] rfl ?_
    refine ar_top (w := .int (nI (((B b).length) + ((B c).length)))) (congrArg Value.int (nI_add ((B b).length) ((B c).length))) ?_
    refine ar_go M_B_difference 3 _ 39 _ [some (.ref 0), some (.int (nI b)), some (.int (nI c)), some (.ref (40 + 4 * b)), some (.ref (40 + 4 * c))] _ [.ref (40 + 4 * c), .ref (40 + 4 * b), .int (nI 2), .int (nI (((B b).length) + ((B c).length)))] rfl ?_
    refine ar_CV M_B_difference rfl rfl (Or.inl rfl) rfl rfl (Nat.le_of_ble_eq_true rfl) hr M_R_wordsSharedWith (Nat.le_of_ble_eq_true rfl) (c_R_wordsSharedWith X d _ hR0 hR02 (by omega) (by omega) hS2 hW hW2) (fun r1 h1 hq => ?_)
    obtain ⟨rfl, rfl⟩ := hq
    refine ⟨rfl, ?_⟩
    show ar Pg _ _ _ 42 [some (.ref 0), some (.int (nI b)), some (.int (nI c)), some (.ref (40 + 4 * b)), some (.ref (40 + 4 * c))] [.int (nI (cntB (shB (B b) (B c)) (B b).length)), .int (nI 2), .int (nI (((B b).length) + ((B c).length)))] _ _
    refine ar_go M_B_difference 1 _ 43 _ [some (.ref 0), some (.int (nI b)), some (.int (nI c)), some (.ref (40 + 4 * b)), some (.ref (40 + 4 * c))] _ [.int (nI 2 * nI (cntB (shB (B b) (B c)) (B b).length)), .int (nI (((B b).length) + ((B c).length)))] rfl ?_
    refine ar_top (w := .int (nI (2 * (cntB (shB (B b) (B c)) (B b).length)))) (congrArg Value.int (pk_mul 2 (cntB (shB (B b) (B c)) (B b).length))) ?_
    refine ar_go M_B_difference 1 _ 44 _ [some (.ref 0), some (.int (nI b)), some (.int (nI c)), some (.ref (40 + 4 * b)), some (.ref (40 + 4 * c))] _ [.int (nI (((B b).length) + ((B c).length)) - nI (2 * (cntB (shB (B b) (B c)) (B b).length)))] rfl ?_
    refine ar_top (w := .int (nI ((B b).length + (B c).length) - nI (2 * cntB (shB (B b) (B c)) (B b).length))) (congrArg Value.int rfl) ?_
    exact ar_R M_B_difference rfl rfl rfl rfl (⟨by rw [dfR, if_pos hcc, nI_clamp (show b < 2 ^ 31 by omega), nI_clamp (show c < 2 ^ 31 by omega)], rfl⟩)
  · have hc1 := bi_ne_f hc1
    refine ar_go M_B_difference 1 _ 9 _ [some (.ref 0), some (.int v), some (.int w), none, none] _ [.int (-1)] rfl ?_
    exact ar_R M_B_difference rfl rfl rfl rfl (⟨by rw [dfR, if_neg (by rw [hc1]; decide)] <;> rfl, rfl⟩)
theorem c_B_sent (X : am_X) (d : Nat) (h : am_H) {B : Nat → Bk} {s : Int64} {u : Nat} {U : Nat → Nat} {l : Nat} {W : Nat → Nat} (hC : isCl h B s u U l W) : ar Pg X d n_B_sent 0 [some (.ref 0)] [] h (fun rr h' => rr = some (.long s) ∧ h' = h) := by
  have hC0 := hC
  obtain ⟨h0, ⟨bf, hb1, hbf⟩, hK, hX, hPr⟩ := hC
  have h0 : h[0]? = some (.inr (0, [.ref 1, .ref 2, .ref 6, .ref 10, .long s])) := h0
  refine ar_go M_B_sent 1 _ 1 _ [some (.ref 0)] _ [.ref 0] rfl ?_
  refine ar_get M_B_sent rfl rfl h0 rfl ?_
  exact ar_R M_B_sent rfl rfl rfl rfl (⟨rfl, rfl⟩)
