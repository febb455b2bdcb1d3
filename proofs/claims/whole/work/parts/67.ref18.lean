/-! The reference: lead -/
/-- the found pair p made plain, taken from the others, put last -/
def ldA (A : Nat → Nat) (c k p : Nat) : Nat → Nat := swR (leA (scA A p (mf_iv (A (34 * p + c))) 34) p c k) p (k - 1) 34
theorem c_M_lead (X : am_X) (d : Nat) (h : am_H) {s : Int64} {ud ld uD lD nd tn : Int32} {A : Nat → Nat} {k c : Nat} (hl : ltS A) (hk : k ≤ 18) (hc : c < 34) (h56 : isM0 h s ud ld (nI k) uD lD nd tn) (h64 : isLA h 64 612 A) : ar Pg X (d + 1 + 1) n_M_lead 0 [some (.ref 56), some (.int (nI c)), none, none, none, none, none] [] h (fun rr h' => fr [56, 64] h h' ∧ (ldF A c k 0 = none → rr = some (.int (-1)) ∧ isM0 h' s ud ld (nI k) uD lD nd tn ∧ isLA h' 64 612 A) ∧ ∀ p, ldF A c k 0 = some p → rr = some (.int (nI (k - 1))) ∧ isM0 h' s ud ld (nI (k - 1)) uD lD nd tn ∧ isLA h' 64 612 (ldA A c k p)) := by
  have h560 := h56
  have h640 := h64
  have hgo := fun K => c_M_ld_1 (Q := (fun rr h' => fr [56, 64] h h' ∧ (ldF A c k 0 = none → rr = some (.int (-1)) ∧ isM0 h' s ud ld (nI k) uD lD nd tn ∧ isLA h' 64 612 A) ∧ ∀ p, ldF A c k 0 = some p → rr = some (.int (nI (k - 1))) ∧ isM0 h' s ud ld (nI (k - 1)) uD lD nd tn ∧ isLA h' 64 612 (ldA A c k p))) X d h hl hk hc h56 h64 K k (Nat.le_refl _)
  rw [Nat.sub_self] at hgo
  unfold isM0 at h56
  unfold isLA at h64
  refine ar_go M_M_lead 3 _ 3 _ [some (.ref 56), some (.int (nI c)), some (.int (-1)), none, none, none, none] _ [.ref 56] rfl ?_
  refine ar_get M_M_lead rfl rfl h56 rfl ?_
  refine ar_go M_M_lead 2 _ 8 _ [some (.ref 56), some (.int (nI c)), some (.int (-1)), none, none, none, none] _ [.int (nI k - nI 1)] rfl ?_
  refine ar_top (w := .int (dI k)) (congrArg Value.int (dI_1 k)) ?_
  refine ar_go M_M_lead 1 _ 9 _ [some (.ref 56), some (.int (nI c)), some (.int (-1)), some (.int (dI k)), none, none, none] _ [] rfl ?_
  refine hgo ?_
  cases hp : ldF A c k 0 with
  | none =>
    show ar Pg _ _ _ 41 [some (.ref 56), some (.int (nI c)), some (.int (-1)), some (.int (-1)), none, none, none] [] _ _
    refine ar_go M_M_lead 1 _ 42 _ [some (.ref 56), some (.int (nI c)), some (.int (-1)), some (.int (-1)), none, none, none] _ [.int (-1)] rfl ?_
    refine ar_if M_M_lead rfl rfl (fun z => absurd z (by decide)) (fun _ => ?_)
    refine ar_go M_M_lead 1 _ 46 _ [some (.ref 56), some (.int (nI c)), some (.int (-1)), some (.int (-1)), none, none, none] _ [.int (-1)] rfl ?_
    exact ar_R M_M_lead rfl rfl rfl rfl (⟨fr.rf _ _, fun _ => ⟨rfl, h560, h640⟩, fun p z => by cases z⟩)
  | some p =>
    obtain ⟨_, hpk, hp0⟩ := ldF_lt A c k 0 p hp
    have hap := hl (34 * p + c) (by omega)
    have hil := mf_iv_lt (A (34 * p + c))
    show ar Pg _ _ _ 41 [some (.ref 56), some (.int (nI c)), some (.int (nI p)), some (.int (-1)), none, none, none] [] _ _
    refine ar_go M_M_lead 1 _ 42 _ [some (.ref 56), some (.int (nI c)), some (.int (nI p)), some (.int (-1)), none, none, none] _ [.int (nI p)] rfl ?_
    refine ar_if M_M_lead rfl rfl (fun _ => ?_) (fun z => absurd (of_decide_eq_false z) (fun z => z (nI_nn (by omega))))
    refine ar_go M_M_lead 3 _ 50 _ [some (.ref 56), some (.int (nI c)), some (.int (nI p)), some (.int (-1)), none, none, none] _ [.ref 56, .int (nI p), .ref 56] rfl ?_
    refine ar_get M_M_lead rfl rfl h56 rfl ?_
    refine ar_go M_M_lead 3 _ 57 _ [some (.ref 56), some (.int (nI c)), some (.int (nI p)), some (.int (-1)), none, none, none] _ [.int (nI 34 * nI p), .ref 64, .int (nI p), .ref 56] rfl ?_
    refine ar_top (w := .int (nI (34 * p))) (congrArg Value.int (pk_mul 34 p)) ?_
    refine ar_go M_M_lead 2 _ 59 _ [some (.ref 56), some (.int (nI c)), some (.int (nI p)), some (.int (-1)), none, none, none] _ [.int (nI (34 * p) + nI c), .ref 64, .int (nI p), .ref 56] rfl ?_
    refine ar_top (w := .int (nI ((34 * p) + c))) (congrArg Value.int (nI_add (34 * p) c)) ?_
    refine ar_lald M_M_lead rfl h64 (vp_in_nI (by omega) (by decide)) ?_
    rw [nI_clamp (n := ((34 * p) + c)) (by omega)]
    refine ar_CS M_M_lead rfl rfl (Nat.le_of_ble_eq_true rfl) rfl rfl (Nat.le_of_ble_eq_true rfl) M_M_inverse (Nat.le_of_ble_eq_true rfl) (c_M_inverse X d _ (x := A (34 * p + c)) (by omega)) (fun r1 h1 hq => ?_)
    obtain ⟨rfl, rfl⟩ := hq
    refine ⟨rfl, ?_⟩
    show ar Pg _ _ _ 63 [some (.ref 56), some (.int (nI c)), some (.int (nI p)), some (.int (-1)), none, none, none] [.long (lN (mf_iv (A (34 * p + c)))), .int (nI p), .ref 56] _ _
    refine ar_CV M_M_lead rfl rfl (Or.inl rfl) rfl rfl (Nat.le_of_ble_eq_true rfl) h56 M_M_scale (Nat.le_of_ble_eq_true rfl) (c_M_scale X d _ hl (r := p) (by omega) (by omega) h560 h640) (fun r1 h2 hq => ?_)
    obtain ⟨rfl, hf1, h641⟩ := hq
    refine ⟨hf1.1, ?_⟩
    show ar Pg _ _ _ 66 [some (.ref 56), some (.int (nI c)), some (.int (nI p)), some (.int (-1)), none, none, none] [] _ _
    refine ar_go M_M_lead 2 _ 68 _ [some (.ref 56), some (.int (nI c)), some (.int (nI p)), some (.int (nI 0)), none, none, none] _ [] rfl ?_
    refine c_M_ld_2 X d h2 (scA_lt hl _ _ _) hk hc (by omega) ?_ (k + 1) 0 h2 (by omega) (by omega) (hf1.at h560 (by simp)) h641 (fr.rf _ _)
    intro h3 h563 h643 hF3
    unfold isM0 at h563
    refine ar_go M_M_lead 1 _ 105 _ [some (.ref 56), some (.int (nI c)), some (.int (nI p)), some (.int (nI k)), none, none, none] _ [.ref 56] rfl ?_
    refine ar_get M_M_lead rfl rfl h563 rfl ?_
    refine ar_go M_M_lead 2 _ 110 _ [some (.ref 56), some (.int (nI c)), some (.int (nI p)), some (.int (nI k)), none, none, none] _ [.int (nI k - nI 1)] rfl ?_
    refine ar_top (w := .int (nI (k - 1))) (congrArg Value.int (pk_sub (by omega))) ?_
    refine ar_go M_M_lead 3 _ 114 _ [some (.ref 56), some (.int (nI c)), some (.int (nI p)), some (.int (nI (k - 1))), some (.int (nI 0)), none, none] _ [] rfl ?_
    refine c_M_ld_3 X d h3 (p := p) (q := k - 1) (by omega) (by omega) ?_ 34 0 h3 none rfl h563 h643 (fr.rf _ _)
    intro h4 x5 h564 h644 hF4
    unfold isM0 at h564
    refine ar_go M_M_lead 2 _ 181 _ [some (.ref 56), some (.int (nI c)), some (.int (nI p)), some (.int (nI (k - 1))), some (.int (nI 34)), x5, none] _ [.ref 56, .ref 56] rfl ?_
    refine ar_get M_M_lead rfl rfl h564 rfl ?_
    refine ar_go M_M_lead 2 _ 186 _ [some (.ref 56), some (.int (nI c)), some (.int (nI p)), some (.int (nI (k - 1))), some (.int (nI 34)), x5, none] _ [.int (nI k - nI 1), .ref 56] rfl ?_
    refine ar_top (w := .int (nI (k - 1))) (congrArg Value.int (pk_sub (by omega))) ?_
    refine ar_put M_M_lead rfl rfl h564 (Nat.le_of_ble_eq_true rfl) rfl (Nat.le_of_ble_eq_true rfl) (fun h5 hf he => ?_)
    have h564 : h5[56]? = some (.inr (5, [.ref 57, .ref 58, .ref 59, .ref 60, .ref 61, .long s, .ref 62, .ref 63, .int ud, .int ld, .int (nI (k - 1)), .ref 64, .ref 65, .ref 66, .ref 67, .int uD, .int lD, .ref 68, .ref 69, .ref 70, .int nd, .int tn, .ref 71, .ref 72, .ref 73, .ref 74, .ref 75])) := he
    refine ar_go M_M_lead 1 _ 190 _ [some (.ref 56), some (.int (nI c)), some (.int (nI p)), some (.int (nI (k - 1))), some (.int (nI 34)), x5, none] _ [.int (nI (k - 1))] rfl ?_
    exact ar_R M_M_lead rfl rfl rfl rfl (⟨((hf1.tr (hF3.tr hF4 (l := [64]) (fun _ z => z) (fun _ z => z)) (l := [64]) (fun _ z => z) (fun _ z => z)).tr hf (l := [56, 64]) (by simp) (by simp)), fun z => (by cases z), fun p2 z => by cases z; exact ⟨rfl, h564, hf.at h644 (by simp)⟩⟩)
