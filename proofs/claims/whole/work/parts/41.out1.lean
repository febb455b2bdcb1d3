/-! What both sides ask first -/
def rng (n : Nat) (v : Int32) : Bool := !am_c2 .lt v 0 && !am_c2 .ge v (nI n)
def rch (v : Int32) : Bool := !am_c2 .lt v (nI 1) && !am_c2 .gt v (nI 16)
def twB (v w : Int32) : Bool := rng 4 v && (rng 4 w && !am_c2 .eq v w)
theorem nn_ex {v : Int32} (h : am_c2 .lt v 0 = false) : ∃ k, k < 2 ^ 31 ∧ v = nI k := by
  have h0 : ¬ v < 0 := of_decide_eq_false h
  refine ⟨v.toInt.toNat, ?_, ?_⟩
  · have := v.toInt_lt
    omega
  · have h1 : 0 ≤ v.toInt := by
      rw [Int32.lt_iff_toInt_lt] at h0
      have : (0 : Int32).toInt = 0 := by decide
      omega
    unfold nI
    apply Int32.toInt_inj.mp
    have h2 := v.toInt_lt
    rw [Int32.toInt_ofNat_of_lt (by omega)]
    omega
theorem rng_ex {n : Nat} (hn : n < 2 ^ 31) {v : Int32} (h : rng n v = true) : ∃ k, k < n ∧ v = nI k := by
  unfold rng at h
  rw [Bool.and_eq_true, Bool.not_eq_true', Bool.not_eq_true'] at h
  obtain ⟨k, hk, rfl⟩ := nn_ex h.1
  exact ⟨k, c2_ge_f hk hn h.2, rfl⟩
theorem rch_ex {v : Int32} (h : rch v = true) : ∃ k, 1 ≤ k ∧ k ≤ 16 ∧ v = nI k := by
  unfold rch at h
  rw [Bool.and_eq_true, Bool.not_eq_true', Bool.not_eq_true'] at h
  have h0 : am_c2 .lt v 0 = false := by
    apply decide_eq_false
    intro z
    refine (of_decide_eq_false h.1 : ¬ v < nI 1) ?_
    rw [Int32.lt_iff_toInt_lt] at z ⊢
    have e0 : (0 : Int32).toInt = 0 := by decide
    have e1 : (nI 1).toInt = 1 := by decide
    omega
  obtain ⟨k, hk, rfl⟩ := nn_ex h0
  have a := c2_lt_f hk (by decide) h.1
  have b := c2_gt_f hk (by decide) h.2
  exact ⟨k, a, b, rfl⟩
theorem twB_ex {v w : Int32} (h : twB v w = true) : ∃ a b, a < 4 ∧ b < 4 ∧ a ≠ b ∧ v = nI a ∧ w = nI b := by
  unfold twB at h
  rw [Bool.and_eq_true, Bool.and_eq_true, Bool.not_eq_true'] at h
  obtain ⟨a, ha, rfl⟩ := rng_ex (by decide) h.1
  obtain ⟨b, hb, rfl⟩ := rng_ex (by decide) h.2.1
  exact ⟨a, b, ha, hb, c2_eq_f (by omega) (by omega) h.2.2, rfl, rfl⟩
theorem cl_nI {k : Nat} (h : k < 2 ^ 31) : (nI k).toNatClampNeg = k := nI_clamp h
theorem c_B_isBank (X : am_X) (d : Nat) (h : am_H) (v : Int32) : ar Pg X d n_B_isBank 0 [some (.int v)] [] h (fun rr h' => rr = some (.int (bi (rng 4 v))) ∧ h' = h) := by
  refine ar_go M_B_isBank 1 _ 1 _ [some (.int v)] _ [.int v] rfl ?_
  refine ar_if M_B_isBank rfl rfl (fun hc => ?_) (fun hc => ?_)
  · refine ar_go M_B_isBank 1 _ 14 _ [some (.int v)] _ [.int (nI 0)] rfl ?_
    exact ar_zret M_B_isBank rfl rfl (Or.inl rfl) (⟨by rw [show rng 4 v = false by simp [rng, hc]]; rfl, rfl⟩)
  · refine ar_go M_B_isBank 2 _ 6 _ [some (.int v)] _ [.int (nI 4), .int v] rfl ?_
    refine ar_icmp M_B_isBank rfl rfl (fun hc2 => ?_) (fun hc2 => ?_)
    · refine ar_go M_B_isBank 1 _ 14 _ [some (.int v)] _ [.int (nI 0)] rfl ?_
      exact ar_zret M_B_isBank rfl rfl (Or.inl rfl) (⟨by rw [show rng 4 v = false by simp [rng, hc2]]; rfl, rfl⟩)
    · refine ar_go M_B_isBank 2 _ 14 _ [some (.int v)] _ [.int (nI 1)] rfl ?_
      exact ar_zret M_B_isBank rfl rfl (Or.inr rfl) (⟨by rw [show rng 4 v = true by simp [rng, hc, hc2]]; rfl, rfl⟩)
theorem c_B_isNumber (X : am_X) (d : Nat) (h : am_H) (v : Int32) : ar Pg X d n_B_isNumber 0 [some (.int v)] [] h (fun rr h' => rr = some (.int (bi (rng 10000 v))) ∧ h' = h) := by
  refine ar_go M_B_isNumber 1 _ 1 _ [some (.int v)] _ [.int v] rfl ?_
  refine ar_if M_B_isNumber rfl rfl (fun hc => ?_) (fun hc => ?_)
  · refine ar_go M_B_isNumber 1 _ 16 _ [some (.int v)] _ [.int (nI 0)] rfl ?_
    exact ar_zret M_B_isNumber rfl rfl (Or.inl rfl) (⟨by rw [show rng 10000 v = false by simp [rng, hc]]; rfl, rfl⟩)
  · refine ar_go M_B_isNumber 2 _ 8 _ [some (.int v)] _ [.int (nI 10000), .int v] rfl ?_
    refine ar_icmp M_B_isNumber rfl rfl (fun hc2 => ?_) (fun hc2 => ?_)
    · refine ar_go M_B_isNumber 1 _ 16 _ [some (.int v)] _ [.int (nI 0)] rfl ?_
      exact ar_zret M_B_isNumber rfl rfl (Or.inl rfl) (⟨by rw [show rng 10000 v = false by simp [rng, hc2]]; rfl, rfl⟩)
    · refine ar_go M_B_isNumber 2 _ 16 _ [some (.int v)] _ [.int (nI 1)] rfl ?_
      exact ar_zret M_B_isNumber rfl rfl (Or.inr rfl) (⟨by rw [show rng 10000 v = true by simp [rng, hc, hc2]]; rfl, rfl⟩)
theorem c_B_isReach (X : am_X) (d : Nat) (h : am_H) (v : Int32) : ar Pg X d n_B_isReach 0 [some (.int v)] [] h (fun rr h' => rr = some (.int (bi (rch v))) ∧ h' = h) := by
  refine ar_go M_B_isReach 2 _ 2 _ [some (.int v)] _ [.int (nI 1), .int v] rfl ?_
  refine ar_icmp M_B_isReach rfl rfl (fun hc => ?_) (fun hc => ?_)
  · refine ar_go M_B_isReach 1 _ 16 _ [some (.int v)] _ [.int (nI 0)] rfl ?_
    exact ar_zret M_B_isReach rfl rfl (Or.inl rfl) (⟨by rw [show rch v = false by simp [rch, hc]]; rfl, rfl⟩)
  · refine ar_go M_B_isReach 2 _ 8 _ [some (.int v)] _ [.int (nI 16), .int v] rfl ?_
    refine ar_icmp M_B_isReach rfl rfl (fun hc2 => ?_) (fun hc2 => ?_)
    · refine ar_go M_B_isReach 1 _ 16 _ [some (.int v)] _ [.int (nI 0)] rfl ?_
      exact ar_zret M_B_isReach rfl rfl (Or.inl rfl) (⟨by rw [show rch v = false by simp [rch, hc2]]; rfl, rfl⟩)
    · refine ar_go M_B_isReach 2 _ 16 _ [some (.int v)] _ [.int (nI 1)] rfl ?_
      exact ar_zret M_B_isReach rfl rfl (Or.inr rfl) (⟨by rw [show rch v = true by simp [rch, hc, hc2]]; rfl, rfl⟩)
theorem c_B_areTwoBanks (X : am_X) (d : Nat) (h : am_H) (v w : Int32) : ar Pg X (d + 1) n_B_areTwoBanks 0 [some (.int v), some (.int w)] [] h (fun rr h' => rr = some (.int (bi (twB v w))) ∧ h' = h) := by
  refine ar_go M_B_areTwoBanks 1 _ 1 _ [some (.int v), some (.int w)] _ [.int v] rfl ?_
  refine ar_CS M_B_areTwoBanks rfl rfl (Nat.le_of_ble_eq_true rfl) rfl rfl (Nat.le_of_ble_eq_true rfl) M_B_isBank (Nat.le_of_ble_eq_true rfl) (c_B_isBank X d _ v) (fun r1 h1 hq => ?_)
  obtain ⟨rfl, rfl⟩ := hq
  refine ⟨rfl, ?_⟩
  show ar Pg _ _ _ 4 [some (.int v), some (.int w)] [.int (bi (rng 4 v))] _ _
  refine ar_if M_B_areTwoBanks rfl rfl (fun hc => ?_) (fun hc => ?_)
  · have hc := bi_eq_t hc
    refine ar_go M_B_areTwoBanks 1 _ 24 _ [some (.int v), some (.int w)] _ [.int (nI 0)] rfl ?_
    exact ar_zret M_B_areTwoBanks rfl rfl (Or.inl rfl) (⟨by rw [show twB v w = false by simp [twB, hc]]; rfl, rfl⟩)
  · have hc := bi_eq_f hc
    refine ar_go M_B_areTwoBanks 1 _ 8 _ [some (.int v), some (.int w)] _ [.int w] rfl ?_
    refine ar_CS M_B_areTwoBanks rfl rfl (Nat.le_of_ble_eq_true rfl) rfl rfl (Nat.le_of_ble_eq_true rfl) M_B_isBank (Nat.le_of_ble_eq_true rfl) (c_B_isBank X d _ w) (fun r1 h1 hq => ?_)
    obtain ⟨rfl, rfl⟩ := hq
    refine ⟨rfl, ?_⟩
    show ar Pg _ _ _ 11 [some (.int v), some (.int w)] [.int (bi (rng 4 w))] _ _
    refine ar_if M_B_areTwoBanks rfl rfl (fun hc2 => ?_) (fun hc2 => ?_)
    · have hc2 := bi_eq_t hc2
      refine ar_go M_B_areTwoBanks 1 _ 24 _ [some (.int v), some (.int w)] _ [.int (nI 0)] rfl ?_
      exact ar_zret M_B_areTwoBanks rfl rfl (Or.inl rfl) (⟨by rw [show twB v w = false by simp [twB, hc2]]; rfl, rfl⟩)
    · have hc2 := bi_eq_f hc2
      refine ar_go M_B_areTwoBanks 2 _ 16 _ [some (.int v), some (.int w)] _ [.int w, .int v] rfl ?_
      refine ar_icmp M_B_areTwoBanks rfl rfl (fun hc3 => ?_) (fun hc3 => ?_)
      · refine ar_go M_B_areTwoBanks 1 _ 24 _ [some (.int v), some (.int w)] _ [.int (nI 0)] rfl ?_
        exact ar_zret M_B_areTwoBanks rfl rfl (Or.inl rfl) (⟨by rw [show twB v w = false by simp [twB, hc3]]; rfl, rfl⟩)
      · refine ar_go M_B_areTwoBanks 2 _ 24 _ [some (.int v), some (.int w)] _ [.int (nI 1)] rfl ?_
        exact ar_zret M_B_areTwoBanks rfl rfl (Or.inr rfl) (⟨by rw [show twB v w = true by simp [twB, hc, hc2, hc3]]; rfl, rfl⟩)
theorem c_M_isBank (X : am_X) (d : Nat) (h : am_H) (v : Int32) : ar Pg X d n_M_isBank 0 [some (.int v)] [] h (fun rr h' => rr = some (.int (bi (rng 4 v))) ∧ h' = h) := by
  refine ar_go M_M_isBank 1 _ 1 _ [some (.int v)] _ [.int v] rfl ?_
  refine ar_if M_M_isBank rfl rfl (fun hc => ?_) (fun hc => ?_)
  · refine ar_go M_M_isBank 1 _ 14 _ [some (.int v)] _ [.int (nI 0)] rfl ?_
    exact ar_zret M_M_isBank rfl rfl (Or.inl rfl) (⟨by rw [show rng 4 v = false by simp [rng, hc]]; rfl, rfl⟩)
  · refine ar_go M_M_isBank 2 _ 6 _ [some (.int v)] _ [.int (nI 4), .int v] rfl ?_
    refine ar_icmp M_M_isBank rfl rfl (fun hc2 => ?_) (fun hc2 => ?_)
    · refine ar_go M_M_isBank 1 _ 14 _ [some (.int v)] _ [.int (nI 0)] rfl ?_
      exact ar_zret M_M_isBank rfl rfl (Or.inl rfl) (⟨by rw [show rng 4 v = false by simp [rng, hc2]]; rfl, rfl⟩)
    · refine ar_go M_M_isBank 2 _ 14 _ [some (.int v)] _ [.int (nI 1)] rfl ?_
      exact ar_zret M_M_isBank rfl rfl (Or.inr rfl) (⟨by rw [show rng 4 v = true by simp [rng, hc, hc2]]; rfl, rfl⟩)
theorem c_M_isNumber (X : am_X) (d : Nat) (h : am_H) (v : Int32) : ar Pg X d n_M_isNumber 0 [some (.int v)] [] h (fun rr h' => rr = some (.int (bi (rng 10000 v))) ∧ h' = h) := by
  refine ar_go M_M_isNumber 1 _ 1 _ [some (.int v)] _ [.int v] rfl ?_
  refine ar_if M_M_isNumber rfl rfl (fun hc => ?_) (fun hc => ?_)
  · refine ar_go M_M_isNumber 1 _ 16 _ [some (.int v)] _ [.int (nI 0)] rfl ?_
    exact ar_zret M_M_isNumber rfl rfl (Or.inl rfl) (⟨by rw [show rng 10000 v = false by simp [rng, hc]]; rfl, rfl⟩)
  · refine ar_go M_M_isNumber 2 _ 8 _ [some (.int v)] _ [.int (nI 10000), .int v] rfl ?_
    refine ar_icmp M_M_isNumber rfl rfl (fun hc2 => ?_) (fun hc2 => ?_)
    · refine ar_go M_M_isNumber 1 _ 16 _ [some (.int v)] _ [.int (nI 0)] rfl ?_
      exact ar_zret M_M_isNumber rfl rfl (Or.inl rfl) (⟨by rw [show rng 10000 v = false by simp [rng, hc2]]; rfl, rfl⟩)
    · refine ar_go M_M_isNumber 2 _ 16 _ [some (.int v)] _ [.int (nI 1)] rfl ?_
      exact ar_zret M_M_isNumber rfl rfl (Or.inr rfl) (⟨by rw [show rng 10000 v = true by simp [rng, hc, hc2]]; rfl, rfl⟩)
theorem c_M_isMany (X : am_X) (d : Nat) (h : am_H) (v : Int32) : ar Pg X d n_M_isMany 0 [some (.int v)] [] h (fun rr h' => rr = some (.int (bi (rch v))) ∧ h' = h) := by
  refine ar_go M_M_isMany 2 _ 2 _ [some (.int v)] _ [.int (nI 1), .int v] rfl ?_
  refine ar_icmp M_M_isMany rfl rfl (fun hc => ?_) (fun hc => ?_)
  · refine ar_go M_M_isMany 1 _ 16 _ [some (.int v)] _ [.int (nI 0)] rfl ?_
    exact ar_zret M_M_isMany rfl rfl (Or.inl rfl) (⟨by rw [show rch v = false by simp [rch, hc]]; rfl, rfl⟩)
  · refine ar_go M_M_isMany 2 _ 8 _ [some (.int v)] _ [.int (nI 16), .int v] rfl ?_
    refine ar_icmp M_M_isMany rfl rfl (fun hc2 => ?_) (fun hc2 => ?_)
    · refine ar_go M_M_isMany 1 _ 16 _ [some (.int v)] _ [.int (nI 0)] rfl ?_
      exact ar_zret M_M_isMany rfl rfl (Or.inl rfl) (⟨by rw [show rch v = false by simp [rch, hc2]]; rfl, rfl⟩)
    · refine ar_go M_M_isMany 2 _ 16 _ [some (.int v)] _ [.int (nI 1)] rfl ?_
      exact ar_zret M_M_isMany rfl rfl (Or.inr rfl) (⟨by rw [show rch v = true by simp [rch, hc, hc2]]; rfl, rfl⟩)
theorem c_M_areTwo (X : am_X) (d : Nat) (h : am_H) (v w : Int32) : ar Pg X (d + 1) n_M_areTwo 0 [some (.int v), some (.int w)] [] h (fun rr h' => rr = some (.int (bi (twB v w))) ∧ h' = h) := by
  refine ar_go M_M_areTwo 1 _ 1 _ [some (.int v), some (.int w)] _ [.int v] rfl ?_
  refine ar_CS M_M_areTwo rfl rfl (Nat.le_of_ble_eq_true rfl) rfl rfl (Nat.le_of_ble_eq_true rfl) M_M_isBank (Nat.le_of_ble_eq_true rfl) (c_M_isBank X d _ v) (fun r1 h1 hq => ?_)
  obtain ⟨rfl, rfl⟩ := hq
  refine ⟨rfl, ?_⟩
  show ar Pg _ _ _ 4 [some (.int v), some (.int w)] [.int (bi (rng 4 v))] _ _
  refine ar_if M_M_areTwo rfl rfl (fun hc => ?_) (fun hc => ?_)
  · have hc := bi_eq_t hc
    refine ar_go M_M_areTwo 1 _ 24 _ [some (.int v), some (.int w)] _ [.int (nI 0)] rfl ?_
    exact ar_zret M_M_areTwo rfl rfl (Or.inl rfl) (⟨by rw [show twB v w = false by simp [twB, hc]]; rfl, rfl⟩)
  · have hc := bi_eq_f hc
    refine ar_go M_M_areTwo 1 _ 8 _ [some (.int v), some (.int w)] _ [.int w] rfl ?_
    refine ar_CS M_M_areTwo rfl rfl (Nat.le_of_ble_eq_true rfl) rfl rfl (Nat.le_of_ble_eq_true rfl) M_M_isBank (Nat.le_of_ble_eq_true rfl) (c_M_isBank X d _ w) (fun r1 h1 hq => ?_)
    obtain ⟨rfl, rfl⟩ := hq
    refine ⟨rfl, ?_⟩
    show ar Pg _ _ _ 11 [some (.int v), some (.int w)] [.int (bi (rng 4 w))] _ _
    refine ar_if M_M_areTwo rfl rfl (fun hc2 => ?_) (fun hc2 => ?_)
    · have hc2 := bi_eq_t hc2
      refine ar_go M_M_areTwo 1 _ 24 _ [some (.int v), some (.int w)] _ [.int (nI 0)] rfl ?_
      exact ar_zret M_M_areTwo rfl rfl (Or.inl rfl) (⟨by rw [show twB v w = false by simp [twB, hc2]]; rfl, rfl⟩)
    · have hc2 := bi_eq_f hc2
      refine ar_go M_M_areTwo 2 _ 16 _ [some (.int v), some (.int w)] _ [.int w, .int v] rfl ?_
      refine ar_icmp M_M_areTwo rfl rfl (fun hc3 => ?_) (fun hc3 => ?_)
      · refine ar_go M_M_areTwo 1 _ 24 _ [some (.int v), some (.int w)] _ [.int (nI 0)] rfl ?_
        exact ar_zret M_M_areTwo rfl rfl (Or.inl rfl) (⟨by rw [show twB v w = false by simp [twB, hc3]]; rfl, rfl⟩)
      · refine ar_go M_M_areTwo 2 _ 24 _ [some (.int v), some (.int w)] _ [.int (nI 1)] rfl ?_
        exact ar_zret M_M_areTwo rfl rfl (Or.inr rfl) (⟨by rw [show twB v w = true by simp [twB, hc, hc2, hc3]]; rfl, rfl⟩)
/-! The class's state -/
def bkV (l : Bk) : Prop := ∀ i, i < l.length → wd l i / 1024 < 10000 ∧ 2 ≤ wd l i % 1024 ∧ wd l i % 1024 < 1002
theorem bkV.W {l : Bk} (h : bkV l) : bkW l := fun i hi => by have := h i hi; omega
theorem stR_V {l : Bk} (hS : bkS l) (hW : bkV l) {e : Nat × Int32 × Bool} (he : e.1 / 1024 < 10000 ∧ 2 ≤ e.1 % 1024 ∧ e.1 % 1024 < 1002) : bkV (stR l e) := by
  have hp := pos_pl l (e.1 / 1024) hS
  unfold stR
  split
  next h =>
    rw [hasAt_iff] at h
    intro i hi
    rw [List.length_set] at hi
    rw [set_wd h.1]
    split
    · exact he
    · exact hW i hi
  next h =>
    split
    · exact hW
    · intro i hi
      rw [insP_len hp.1] at hi
      rw [insP_wd hp.1]
      split
      · exact hW i (by have := hp.1; omega)
      · split
        · exact he
        · exact hW (i - 1) (by omega)
def clL : List Nat := List.range 56
theorem clL_mem {k : Nat} : k ∈ clL ↔ k < 56 := List.mem_range
def isB0 (h : am_H) (s : Int64) : Prop := h[0]? = some (.inr (0, [.ref 1, .ref 2, .ref 6, .ref 10, .long s]))
def isB1 (h : am_H) : Prop := ∃ f : Nat → Option Nat, h[1]? = some (.inl (4, 4, .inr (.inr (.inr (.inr f))))) ∧ ∀ b, b < 4 → f b = some (40 + 4 * b)
def isK (h : am_H) (B : Nat → Bk) : Prop := ∀ b, b < 4 → isR h (40 + 4 * b) (B b) ∧ bkS (B b) ∧ bkV (B b)
def isX (h : am_H) : Prop := isF h ∧ (∃ l, isR h 2 l) ∧ (∃ l, isR h 6 l) ∧ (∃ k A, isP h 15 k A) ∧ (∃ k A, isP h 17 k A) ∧ (∃ ro c M uk, isQ h ro c M uk) ∧ (∃ SA, isLA h 38 18 SA ∧ lt18 SA) ∧ ∃ SB, isLA h 39 18 SB ∧ lt18 SB
def isPr (h : am_H) (u : Nat) (U : Nat → Nat) (l : Nat) (W : Nat → Nat) : Prop := ∃ U1 W1 : Nat → Nat, isP h 11 (u + 1) U1 ∧ isP h 13 (l + 1) W1 ∧ (∀ i, i ≤ u → U1 i = U i) ∧ ∀ i, i ≤ l → W1 i = W i
def isCl (h : am_H) (B : Nat → Bk) (s : Int64) (u : Nat) (U : Nat → Nat) (l : Nat) (W : Nat → Nat) : Prop := isB0 h s ∧ isB1 h ∧ isK h B ∧ isX h ∧ isPr h u U l W
theorem isB1.mv {h h1 : am_H} {s : List Nat} (H : isB1 h) (hf : fr s h h1) (h0 : 1 ∉ s) : isB1 h1 := by
  obtain ⟨f, a, b⟩ := H
  exact ⟨f, hf.at a h0, b⟩
theorem isK.mv {h h1 : am_H} {B : Nat → Bk} {s : List Nat} (H : isK h B) (hf : fr s h h1) (h0 : ∀ k, 40 ≤ k → k < 56 → k ∉ s) : isK h1 B := fun b hb =>
  ⟨(H b hb).1.fr hf (h0 _ (by omega) (by omega)) (h0 _ (by omega) (by omega)) (h0 _ (by omega) (by omega)) (h0 _ (by omega) (by omega)), (H b hb).2⟩
theorem isPr.mv {h h1 : am_H} {u : Nat} {U : Nat → Nat} {l : Nat} {W : Nat → Nat} {s : List Nat} (H : isPr h u U l W) (hf : fr s h h1) (h0 : ∀ k, 11 ≤ k → k < 15 → k ∉ s) : isPr h1 u U l W := by
  obtain ⟨U1, W1, a, b, c⟩ := H
  exact ⟨U1, W1, a.fr hf (h0 _ (by omega) (by omega)) (h0 _ (by omega) (by omega)), b.fr hf (h0 _ (by omega) (by omega)) (h0 _ (by omega) (by omega)), c⟩
theorem isX.mv {h h1 : am_H} {s : List Nat} (H : isX h) (hf : fr s h h1) (h0 : ∀ k, 2 ≤ k → k < 11 → k ∉ s) (h2 : ∀ k, 15 ≤ k → k < 40 → k ∉ s) : isX h1 := by
  obtain ⟨a, ⟨l, b⟩, ⟨l2, c⟩, ⟨k, A, d⟩, ⟨k2, A2, e⟩, ⟨ro, c0, M, uk, g⟩, ⟨SA, i, i2⟩, SB, j, j2⟩ := H
  refine ⟨hf.at a (h0 _ (by omega) (by omega)), ⟨l, b.fr hf ?_ ?_ ?_ ?_⟩, ⟨l2, c.fr hf ?_ ?_ ?_ ?_⟩, ⟨k, A, d.fr hf ?_ ?_⟩, ⟨k2, A2, e.fr hf ?_ ?_⟩, ⟨ro, c0, M, uk, g.mv hf (fun k k1 k2 => h2 k (by omega) (by omega))⟩, ⟨SA, hf.at i ?_, i2⟩, SB, hf.at j ?_, j2⟩
  all_goals first | exact h0 _ (by omega) (by omega) | exact h2 _ (by omega) (by omega)
theorem isCl.mv {h h1 : am_H} {B : Nat → Bk} {s : Int64} {u : Nat} {U : Nat → Nat} {l : Nat} {W : Nat → Nat} {m : List Nat} (H : isCl h B s u U l W) (hf : fr m h h1) (hm : ∀ k, k < 56 → k ∉ m) : isCl h1 B s u U l W :=
  ⟨hf.at H.1 (hm _ (by omega)), H.2.1.mv hf (hm _ (by omega)), H.2.2.1.mv hf (fun k _ k2 => hm k k2), H.2.2.2.1.mv hf (fun k _ k2 => hm k (by omega)) (fun k _ k2 => hm k (by omega)), H.2.2.2.2.mv hf (fun k _ k2 => hm k (by omega))⟩
def updB (B : Nat → Bk) (b : Nat) (l : Bk) : Nat → Bk := fun i => if i = b then l else B i
theorem isK.bank {h h1 : am_H} {B : Nat → Bk} {b : Nat} {l : Bk} (H : isK h B) (_hb : b < 4) (hf : fr [40 + 4 * b, 40 + 4 * b + 1, 40 + 4 * b + 2, 40 + 4 * b + 3] h h1) (hR : isR h1 (40 + 4 * b) l) (hS : bkS l) (hV : bkV l) : isK h1 (updB B b l) := by
  intro c hc
  unfold updB
  by_cases e : c = b
  · subst e
    rw [if_pos rfl]
    exact ⟨hR, hS, hV⟩
  · rw [if_neg e]
    exact ⟨(H c hc).1.fr hf (by simp; omega) (by simp; omega) (by simp; omega) (by simp; omega), (H c hc).2⟩
theorem isCl.bank {h h1 : am_H} {B : Nat → Bk} {s : Int64} {u : Nat} {U : Nat → Nat} {l : Nat} {W : Nat → Nat} {b : Nat} {o : Bk} (H : isCl h B s u U l W) (hb : b < 4) (hf : fr [40 + 4 * b, 40 + 4 * b + 1, 40 + 4 * b + 2, 40 + 4 * b + 3] h h1) (hR : isR h1 (40 + 4 * b) o) (hS : bkS o) (hV : bkV o) : isCl h1 (updB B b o) s u U l W :=
  ⟨hf.at H.1 (by simp; omega), H.2.1.mv hf (by simp; omega), H.2.2.1.bank hb hf hR hS hV, H.2.2.2.1.mv hf (fun k _ _ => by simp; omega) (fun k _ _ => by simp; omega), H.2.2.2.2.mv hf (fun k _ _ => by simp; omega)⟩
theorem bank_cl {b : Nat} (hb : b < 4) : ∀ k, k ∈ [40 + 4 * b, 40 + 4 * b + 1, 40 + 4 * b + 2, 40 + 4 * b + 3] → k ∈ clL := by
  intro k hk
  rw [clL_mem]
  simp at hk
  omega
