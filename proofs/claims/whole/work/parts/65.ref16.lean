/-! The reference: lead -/
def ldF (A : Nat → Nat) (c : Nat) : Nat → Nat → Option Nat
  | 0, _ => none
  | n + 1, j => if A (34 * j + c) = 0 then ldF A c n (j + 1) else some j
theorem ldF_lt (A : Nat → Nat) (c : Nat) : ∀ n j p, ldF A c n j = some p → j ≤ p ∧ p < j + n ∧ A (34 * p + c) ≠ 0
  | 0, j, p, h => by cases h
  | n + 1, j, p, h => by
    rw [ldF] at h
    split at h
    next => have := ldF_lt A c n (j + 1) p h; exact ⟨by omega, by omega, this.2.2⟩
    next z => cases h; exact ⟨Nat.le_refl _, by omega, z⟩
def leA (A : Nat → Nat) (p c : Nat) : Nat → Nat → Nat
  | 0 => A
  | r + 1 => if r = p then leA A p c r else tkA (leA A p c r) r p (leA A p c r (34 * r + c)) 34
theorem leA_lt {A : Nat → Nat} (h : ltS A) (p c : Nat) : ∀ r, ltS (leA A p c r)
  | 0 => h
  | r + 1 => by
    rw [leA]
    split
    · exact leA_lt h p c r
    · exact tkA_lt (leA_lt h p c r) _ _ _ _
def swR (A : Nat → Nat) (p q : Nat) : Nat → Nat → Nat
  | 0 => A
  | i + 1 => updN (updN (swR A p q i) (34 * p + i) (swR A p q i (34 * q + i))) (34 * q + i) (swR A p q i (34 * p + i))
theorem c_M_ld_1 (X : am_X) (d : Nat) (h : am_H) {s : Int64} {ud ld uD lD nd tn : Int32} {A : Nat → Nat} {k c : Nat} (hl : ltS A) (hk : k ≤ 18) (hc : c < 34) (h56 : isM0 h s ud ld (nI k) uD lD nd tn) (h64 : isLA h 64 612 A) {Q : Option Value → am_H → Prop} (K : ar Pg X (d + 1 + 1) n_M_lead 41 [some (.ref 56), some (.int (nI c)), some (.int (ruI (ldF A c k 0))), some (.int (-1)), none, none, none] [] h Q) : ∀ j, j ≤ k → ar Pg X (d + 1 + 1) n_M_lead 9 [some (.ref 56), some (.int (nI c)), some (.int (ruI (ldF A c (k - j) j))), some (.int (dI j)), none, none, none] [] h Q := by
  unfold isM0 at h56
  unfold isLA at h64
  intro j
  induction j with
  | zero =>
    intro hj
    refine ar_go M_M_lead 1 _ 10 _ [some (.ref 56), some (.int (nI c)), some (.int (ruI (ldF A c (k - 0) 0))), some (.int (dI 0)), none, none, none] _ [.int (-1)] rfl ?_
    exact ar_if M_M_lead rfl rfl (fun _ => K) (fun z => absurd z (by decide))
  | succ j ih =>
    intro hj
    show ar Pg X (d + 1 + 1) n_M_lead 9 [some (.ref 56), some (.int (nI c)), some (.int (ruI (ldF A c (k - (j + 1)) (j + 1)))), some (.int (nI j)), none, none, none] [] h Q
    refine ar_go M_M_lead 1 _ 10 _ [some (.ref 56), some (.int (nI c)), some (.int (ruI (ldF A c (k - (j + 1)) (j + 1)))), some (.int (nI j)), none, none, none] _ [.int (nI j)] rfl ?_
    refine ar_if M_M_lead rfl rfl (fun hc => absurd (of_decide_eq_true hc) (nI_pos (by omega))) (fun _ => ?_)
    have haj := hl (34 * j + c) (by omega)
    have hkj : k - j = k - (j + 1) + 1 := by omega
    refine ar_go M_M_lead 1 _ 14 _ [some (.ref 56), some (.int (nI c)), some (.int (ruI (ldF A c (k - (j + 1)) (j + 1)))), some (.int (nI j)), none, none, none] _ [.ref 56] rfl ?_
    refine ar_get M_M_lead rfl rfl h56 rfl ?_
    refine ar_go M_M_lead 3 _ 21 _ [some (.ref 56), some (.int (nI c)), some (.int (ruI (ldF A c (k - (j + 1)) (j + 1)))), some (.int (nI j)), none, none, none] _ [.int (nI 34 * nI j), .ref 64] rfl ?_
    refine ar_top (w := .int (nI (34 * j))) (congrArg Value.int (pk_mul 34 j)) ?_
    refine ar_go M_M_lead 2 _ 23 _ [some (.ref 56), some (.int (nI c)), some (.int (ruI (ldF A c (k - (j + 1)) (j + 1)))), some (.int (nI j)), none, none, none] _ [.int (nI (34 * j) + nI c), .ref 64] rfl ?_
    refine ar_top (w := .int (nI ((34 * j) + c))) (congrArg Value.int (nI_add (34 * j) c)) ?_
    refine ar_lald M_M_lead rfl h64 (vp_in_nI (by omega) (by decide)) ?_
    rw [nI_clamp (n := ((34 * j) + c)) (by omega)]
    refine ar_go M_M_lead 2 _ 26 _ [some (.ref 56), some (.int (nI c)), some (.int (ruI (ldF A c (k - (j + 1)) (j + 1)))), some (.int (nI j)), none, none, none] _ [.int (lg_cmp (lN (A ((34 * j) + c))) (lN 0))] rfl ?_
    refine ar_top (w := .int (if A (34 * j + c) = 0 then 0 else 1)) (congrArg Value.int (lcmp0 haj)) ?_
    by_cases h0 : A (34 * j + c) = 0
    · rw [if_pos h0]
      refine ar_if M_M_lead rfl rfl (fun _ => ?_) (fun z => absurd z (by decide))
      refine ar_go M_M_lead 2 _ 35 _ [some (.ref 56), some (.int (nI c)), some (.int (ruI (ldF A c (k - (j + 1)) (j + 1)))), some (.int (nI j)), none, none, none] _ [] rfl ?_
      refine ar_go M_M_lead 1 _ 38 _ [some (.ref 56), some (.int (nI c)), some (.int (ruI (ldF A c (k - (j + 1)) (j + 1)))), some (.int (nI j + Int32.ofInt (-1))), none, none, none] _ [] rfl ?_
      rw [show nI j + Int32.ofInt (-1) = dI j from dI_pred j]
      refine ar_go M_M_lead 1 _ 9 _ [some (.ref 56), some (.int (nI c)), some (.int (ruI (ldF A c (k - (j + 1)) (j + 1)))), some (.int (dI j)), none, none, none] _ [] rfl ?_
      have hp : ldF A c (k - j) j = ldF A c (k - (j + 1)) (j + 1) := by rw [hkj, ldF, if_pos h0]
      have := ih (by omega)
      rw [hp] at this
      exact this
    · rw [if_neg h0]
      refine ar_if M_M_lead rfl rfl (fun z => absurd z (by decide)) (fun _ => ?_)
      refine ar_go M_M_lead 3 _ 35 _ [some (.ref 56), some (.int (nI c)), some (.int (nI j)), some (.int (nI j)), none, none, none] _ [] rfl ?_
      refine ar_go M_M_lead 1 _ 38 _ [some (.ref 56), some (.int (nI c)), some (.int (nI j)), some (.int (nI j + Int32.ofInt (-1))), none, none, none] _ [] rfl ?_
      rw [show nI j + Int32.ofInt (-1) = dI j from dI_pred j]
      refine ar_go M_M_lead 1 _ 9 _ [some (.ref 56), some (.int (nI c)), some (.int (nI j)), some (.int (dI j)), none, none, none] _ [] rfl ?_
      have hp : ldF A c (k - j) j = some j := by rw [hkj, ldF, if_neg h0]
      have := ih (by omega)
      rw [hp] at this
      exact this
theorem c_M_ld_2 (X : am_X) (d : Nat) (h : am_H) {s : Int64} {ud ld uD lD nd tn : Int32} {A : Nat → Nat} {k c p : Nat} (hl : ltS A) (hk : k ≤ 18) (hc : c < 34) (hp : p < k) {Q : Option Value → am_H → Prop} (K : ∀ h1 : am_H, isM0 h1 s ud ld (nI k) uD lD nd tn → isLA h1 64 612 (leA A p c k) → fr [64] h h1 → ar Pg X (d + 1 + 1) n_M_lead 104 [some (.ref 56), some (.int (nI c)), some (.int (nI p)), some (.int (nI k)), none, none, none] [] h1 Q) : ∀ (n r : Nat) (h1 : am_H), k - r < n → r ≤ k → isM0 h1 s ud ld (nI k) uD lD nd tn → isLA h1 64 612 (leA A p c r) → fr [64] h h1 → ar Pg X (d + 1 + 1) n_M_lead 68 [some (.ref 56), some (.int (nI c)), some (.int (nI p)), some (.int (nI r)), none, none, none] [] h1 Q := by
  intro n
  induction n with
  | zero => intro r h1 hr; omega
  | succ n ih =>
    intro r h1 hr hrk h56 h64 hF
    have h560 := h56
    have h640 := h64
    unfold isM0 at h56
    unfold isLA at h64
    refine ar_go M_M_lead 2 _ 70 _ [some (.ref 56), some (.int (nI c)), some (.int (nI p)), some (.int (nI r)), none, none, none] _ [.ref 56, .int (nI r)] rfl ?_
    refine ar_get M_M_lead rfl rfl h56 rfl ?_
    refine ar_icmp M_M_lead rfl rfl (fun hc1 => ?_) (fun hc1 => ?_)
    · have hc1 := c2_ge_t (a := r) (b := k) (by omega) (by omega) hc1
      have hr2 : r = k := by omega
      rw [hr2] at h640 ⊢
      exact K h1 h560 h640 hF
    · have hc1 := c2_ge_f (a := r) (b := k) (by omega) (by omega) hc1
      refine ar_go M_M_lead 2 _ 78 _ [some (.ref 56), some (.int (nI c)), some (.int (nI p)), some (.int (nI r)), none, none, none] _ [.int (nI p), .int (nI r)] rfl ?_
      refine ar_icmp M_M_lead rfl rfl (fun hc2 => ?_) (fun hc2 => ?_)
      · have hc2 := c2_eq_t (a := r) (b := p) (by omega) (by omega) hc2
        refine ar_go M_M_lead 1 _ 101 _ [some (.ref 56), some (.int (nI c)), some (.int (nI p)), some (.int (nI r + Int32.ofInt 1)), none, none, none] _ [] rfl ?_
        rw [show nI r + Int32.ofInt 1 = nI (r + 1) from nI_add r 1]
        refine ar_go M_M_lead 1 _ 68 _ [some (.ref 56), some (.int (nI c)), some (.int (nI p)), some (.int (nI (r + 1))), none, none, none] _ [] rfl ?_
        have hq : leA A p c (r + 1) = leA A p c r := by rw [leA, if_pos hc2]
        exact ih (r + 1) h1 (by omega) (by omega) h560 (by rw [hq]; exact h640) hF
      · have hc2 := c2_eq_f (a := r) (b := p) (by omega) (by omega) hc2
        have har := leA_lt hl p c r (34 * r + c) (by omega)
        refine ar_go M_M_lead 4 _ 85 _ [some (.ref 56), some (.int (nI c)), some (.int (nI p)), some (.int (nI r)), none, none, none] _ [.ref 56, .int (nI p), .int (nI r), .ref 56] rfl ?_
        refine ar_get M_M_lead rfl rfl h56 rfl ?_
        refine ar_go M_M_lead 3 _ 92 _ [some (.ref 56), some (.int (nI c)), some (.int (nI p)), some (.int (nI r)), none, none, none] _ [.int (nI 34 * nI r), .ref 64, .int (nI p), .int (nI r), .ref 56] rfl ?_
        refine ar_top (w := .int (nI (34 * r))) (congrArg Value.int (pk_mul 34 r)) ?_
        refine ar_go M_M_lead 2 _ 94 _ [some (.ref 56), some (.int (nI c)), some (.int (nI p)), some (.int (nI r)), none, none, none] _ [.int (nI (34 * r) + nI c), .ref 64, .int (nI p), .int (nI r), .ref 56] rfl ?_
        refine ar_top (w := .int (nI ((34 * r) + c))) (congrArg Value.int (nI_add (34 * r) c)) ?_
        refine ar_lald M_M_lead rfl h64 (vp_in_nI (by omega) (by decide)) ?_
        rw [nI_clamp (n := ((34 * r) + c)) (by omega)]
        refine ar_CV M_M_lead rfl rfl (Or.inl rfl) rfl rfl (Nat.le_of_ble_eq_true rfl) h56 M_M_take (Nat.le_of_ble_eq_true rfl) (c_M_take X d _ (leA_lt hl p c r) (fm := r) (pp := p) (by omega) (by omega) hc2 (by omega) h560 h640) (fun r1 h2 hq => ?_)
        obtain ⟨rfl, hf, h642⟩ := hq
        refine ⟨hf.1, ?_⟩
        show ar Pg _ _ _ 98 [some (.ref 56), some (.int (nI c)), some (.int (nI p)), some (.int (nI r)), none, none, none] [] _ _
        refine ar_go M_M_lead 1 _ 101 _ [some (.ref 56), some (.int (nI c)), some (.int (nI p)), some (.int (nI r + Int32.ofInt 1)), none, none, none] _ [] rfl ?_
        rw [show nI r + Int32.ofInt 1 = nI (r + 1) from nI_add r 1]
        refine ar_go M_M_lead 1 _ 68 _ [some (.ref 56), some (.int (nI c)), some (.int (nI p)), some (.int (nI (r + 1))), none, none, none] _ [] rfl ?_
        have hq : leA A p c (r + 1) = tkA (leA A p c r) r p (leA A p c r (34 * r + c)) 34 := by rw [leA, if_neg hc2]
        exact ih (r + 1) h2 (by omega) (by omega) (hf.at h560 (by simp)) (by rw [hq]; exact h642) (hF.tr hf (fun _ z => z) (fun _ z => z))
