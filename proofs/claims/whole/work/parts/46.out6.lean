/-! The class: runSettling, exchange, list, settle, spread -/
theorem ar_xlen {P : am_P} {X : am_X} {d j pc : Nat} {ls : am_L} {h : am_H} {Q : Option Value → am_H → Prop} {M : am_M} {len a : Nat} {r : List Value} (hM : P.1[j]? = some M) (hi : M.2.2.2.2.2[pc]? = some (some (.arraylength, len))) (ha : a < 3) (kk : ar P X d j (pc + 1) ls (.int (nI (X a).1) :: r) h Q) : ar P X d j pc ls (.ref (am_x0 + a) :: r) h Q :=
  ar_P hM hi (by simp only [am_exP, am_alen, if_pos (Nat.le_add_right am_x0 a), Nat.add_sub_cancel_left]; rw [if_pos (Nat.add_lt_add_left ha _)]; rfl) kk
def mn (m : Nat) : Nat := if 16 < 2 * m then 16 else 2 * m
def slL (O : exT) (a b : Nat) : Nat → Int32 × Sg → Nat → Int32 × Sg
  | 0, R, _ => R
  | n + 1, R, m => if R.1 = -4 ∧ m < 16 then slL O a b n (exF O R.2 a b (mn m)) (mn m) else R
theorem slL_no {O : exT} {a b : Nat} {R : Int32 × Sg} {m : Nat} (h : ¬ (R.1 = -4 ∧ m < 16)) : ∀ n, slL O a b n R m = R
  | 0 => rfl
  | n + 1 => by rw [slL, if_neg h]
def stF (O : exT) (S : Sg) (a b m : Nat) : Int32 × Sg := if (slL O a b 15 (exF O S a b m) m).1 = -4 then lsF (slL O a b 15 (exF O S a b m) m).2 a b else slL O a b 15 (exF O S a b m) m
theorem c_B_rs_end (X : am_X) (d : Nat) (h : am_H) {R : Int32 × Sg} {m : Nat} {a b m0 : Nat} (ha : a < 4) (hb : b < 4) (hne : a ≠ b) (h1 : am_H) (hC : isS h1 R.2) (hF : fr clL h h1) : ar Pg X (d + 1 + 1 + 1 + 1 + 1) n_B_runSettling 51 [some (.ref 0), some (.ref (40 + 4 * a)), some (.ref (40 + 4 * b)), some (.int (nI m0)), some (.int (nI m)), some (.int R.1)] [] h1 (fun rr h' => rr = some (.int (if R.1 = -4 then lsF R.2 a b else R).1) ∧ isS h' (if R.1 = -4 then lsF R.2 a b else R).2 ∧ fr clL h h') := by
  refine ar_go M_B_runSettling 2 _ 55 _ [some (.ref 0), some (.ref (40 + 4 * a)), some (.ref (40 + 4 * b)), some (.int (nI m0)), some (.int (nI m)), some (.int R.1)] _ [.int (-4), .int R.1] rfl ?_
  refine ar_icmp M_B_runSettling rfl rfl (fun hc => ?_) (fun hc => ?_)
  · have hc : ¬ R.1 = -4 := of_decide_eq_true hc
    refine ar_go M_B_runSettling 1 _ 69 _ [some (.ref 0), some (.ref (40 + 4 * a)), some (.ref (40 + 4 * b)), some (.int (nI m0)), some (.int (nI m)), some (.int R.1)] _ [.int R.1] rfl ?_
    exact ar_R M_B_runSettling rfl rfl rfl rfl (⟨by rw [if_neg hc], by rw [if_neg hc]; exact hC, hF⟩)
  · have hc : R.1 = -4 := Decidable.not_not.mp (of_decide_eq_false hc)
    refine ar_go M_B_runSettling 3 _ 61 _ [some (.ref 0), some (.ref (40 + 4 * a)), some (.ref (40 + 4 * b)), some (.int (nI m0)), some (.int (nI m)), some (.int R.1)] _ [.ref (40 + 4 * b), .ref (40 + 4 * a), .ref 0] rfl ?_
    refine ar_CV M_B_runSettling rfl rfl (Or.inl rfl) rfl rfl (Nat.le_of_ble_eq_true rfl) hC.1 M_B_runListing (Nat.le_of_ble_eq_true rfl) (c_B_runListing X d _ hC ha hb hne) (fun r1 h2 hq => ?_)
    obtain ⟨rfl, hC2, hf2⟩ := hq
    refine ⟨hf2.1, ?_⟩
    show ar Pg _ _ _ 64 [some (.ref 0), some (.ref (40 + 4 * a)), some (.ref (40 + 4 * b)), some (.int (nI m0)), some (.int (nI m)), some (.int R.1)] [.int ((lsF R.2 a b).1)] _ _
    refine ar_go M_B_runSettling 1 _ 69 _ [some (.ref 0), some (.ref (40 + 4 * a)), some (.ref (40 + 4 * b)), some (.int (nI m0)), some (.int (nI m)), some (.int R.1)] _ [.int ((lsF R.2 a b).1)] rfl ?_
    exact ar_R M_B_runSettling rfl rfl rfl rfl (⟨by rw [if_pos hc], by rw [if_pos hc]; exact hC2, hF.tr hf2 (fun _ z => z) (fun _ z => z)⟩)
theorem mn_eq {m : Nat} (h : m ≤ 16) : (if nI 16 < nI (2 * m) then nI 16 else nI (2 * m)) = nI (mn m) := by
  unfold mn
  by_cases c : 16 < 2 * m
  · rw [if_pos ((nI_ltI (by decide) (by omega)).mpr c), if_pos c]
  · rw [if_neg (fun z => c ((nI_ltI (by decide) (by omega)).mp z)), if_neg c]
theorem mn_le {m : Nat} (h : 1 ≤ m) (h2 : m < 16) : m + 1 ≤ mn m ∧ mn m ≤ 16 := by
  unfold mn
  split <;> omega
theorem c_B_rs_loop (O : exT) (hOk : clOk O) (hE : eu_law) (X : am_X) (d : Nat) (h : am_H) {a b m0 : Nat} (ha : a < 4) (hb : b < 4) (hne : a ≠ b) : ∀ (n m : Nat) (R : Int32 × Sg) (h1 : am_H), 1 ≤ m → m ≤ 16 → 16 ≤ m + n → isS h1 R.2 → fr clL h h1 → ar Pg X (d + 1 + 1 + 1 + 1 + 1) n_B_runSettling 13 [some (.ref 0), some (.ref (40 + 4 * a)), some (.ref (40 + 4 * b)), some (.int (nI m0)), some (.int (nI m)), some (.int R.1)] [] h1 (fun rr h' => rr = some (.int (if (slL O a b n R m).1 = -4 then lsF (slL O a b n R m).2 a b else (slL O a b n R m)).1) ∧ isS h' (if (slL O a b n R m).1 = -4 then lsF (slL O a b n R m).2 a b else (slL O a b n R m)).2 ∧ fr clL h h') := by
  intro n
  induction n with
  | zero =>
    intro m R h1 hm1 hm hn hC hF
    have hm16 : m = 16 := by omega
    rw [slL_no (fun z => by omega)]
    refine ar_go M_B_runSettling 2 _ 17 _ [some (.ref 0), some (.ref (40 + 4 * a)), some (.ref (40 + 4 * b)), some (.int (nI m0)), some (.int (nI m)), some (.int R.1)] _ [.int (-4), .int R.1] rfl ?_
    refine ar_icmp M_B_runSettling rfl rfl (fun _ => c_B_rs_end X d h ha hb hne h1 hC hF) (fun _ => ?_)
    refine ar_go M_B_runSettling 2 _ 24 _ [some (.ref 0), some (.ref (40 + 4 * a)), some (.ref (40 + 4 * b)), some (.int (nI m0)), some (.int (nI m)), some (.int R.1)] _ [.int (nI 16), .int (nI m)] rfl ?_
    refine ar_icmp M_B_runSettling rfl rfl (fun _ => c_B_rs_end X d h ha hb hne h1 hC hF) (fun z => ?_)
    have z := c2_ge_f (a := m) (b := 16) (by omega) (by omega) z
    omega
  | succ n ih =>
    intro m R h1 hm1 hm hn hC hF
    refine ar_go M_B_runSettling 2 _ 17 _ [some (.ref 0), some (.ref (40 + 4 * a)), some (.ref (40 + 4 * b)), some (.int (nI m0)), some (.int (nI m)), some (.int R.1)] _ [.int (-4), .int R.1] rfl ?_
    refine ar_icmp M_B_runSettling rfl rfl (fun hc => ?_) (fun hc => ?_)
    · have hc : ¬ R.1 = -4 := of_decide_eq_true hc
      rw [slL_no (fun z => hc z.1)]
      exact c_B_rs_end X d h ha hb hne h1 hC hF
    · have hc : R.1 = -4 := Decidable.not_not.mp (of_decide_eq_false hc)
      refine ar_go M_B_runSettling 2 _ 24 _ [some (.ref 0), some (.ref (40 + 4 * a)), some (.ref (40 + 4 * b)), some (.int (nI m0)), some (.int (nI m)), some (.int R.1)] _ [.int (nI 16), .int (nI m)] rfl ?_
      refine ar_icmp M_B_runSettling rfl rfl (fun hc2 => ?_) (fun hc2 => ?_)
      · have hc2 := c2_ge_t (a := m) (b := 16) (by omega) (by omega) hc2
        rw [slL_no (fun z => by omega)]
        exact c_B_rs_end X d h ha hb hne h1 hC hF
      · have hc2 := c2_ge_f (a := m) (b := 16) (by omega) (by omega) hc2
        refine ar_go M_B_runSettling 3 _ 31 _ [some (.ref 0), some (.ref (40 + 4 * a)), some (.ref (40 + 4 * b)), some (.int (nI m0)), some (.int (nI m)), some (.int R.1)] _ [.int (nI 2 * nI m)] rfl ?_
        refine ar_top (w := .int (nI (2 * m))) (congrArg Value.int (pk_mul 2 m)) ?_
        refine ar_go M_B_runSettling 1 _ 33 _ [some (.ref 0), some (.ref (40 + 4 * a)), some (.ref (40 + 4 * b)), some (.int (nI m0)), some (.int (nI m)), some (.int R.1)] _ [.int (nI 16), .int (nI (2 * m))] rfl ?_
        refine ar_mmin M_B_runSettling rfl rfl (Nat.succ_pos _) (Nat.le_of_ble_eq_true rfl) (z := nI (mn m)) (mn_eq (by omega)) ?_
        have hmn := mn_le (m := m) (by omega) (by omega)
        refine ar_go M_B_runSettling 5 _ 43 _ [some (.ref 0), some (.ref (40 + 4 * a)), some (.ref (40 + 4 * b)), some (.int (nI m0)), some (.int (nI (mn m))), some (.int R.1)] _ [.int (nI (mn m)), .ref (40 + 4 * b), .ref (40 + 4 * a), .ref 0] rfl ?_
        refine ar_CV M_B_runSettling rfl rfl (Or.inl rfl) rfl rfl (Nat.le_of_ble_eq_true rfl) hC.1 M_B_runExchange (Nat.le_of_ble_eq_true rfl) (c_B_runExchange O hOk hE X d _ hC ha hb hne (m := mn m) (by omega) (by omega)) (fun r1 h2 hq => ?_)
        obtain ⟨rfl, hC2, hf2⟩ := hq
        refine ⟨hf2.1, ?_⟩
        show ar Pg _ _ _ 46 [some (.ref 0), some (.ref (40 + 4 * a)), some (.ref (40 + 4 * b)), some (.int (nI m0)), some (.int (nI (mn m))), some (.int R.1)] [.int ((exF O R.2 a b (mn m)).1)] _ _
        refine ar_go M_B_runSettling 2 _ 13 _ [some (.ref 0), some (.ref (40 + 4 * a)), some (.ref (40 + 4 * b)), some (.int (nI m0)), some (.int (nI (mn m))), some (.int ((exF O R.2 a b (mn m)).1))] _ [] rfl ?_
        rw [show slL O a b (n + 1) R m = slL O a b n (exF O R.2 a b (mn m)) (mn m) by rw [slL, if_pos ⟨hc, hc2⟩]]
        exact ih (mn m) _ h2 (by omega) (by omega) (by omega) hC2 (hF.tr hf2 (fun _ z => z) (fun _ z => z))
theorem c_B_runSettling (O : exT) (hOk : clOk O) (hE : eu_law) (X : am_X) (d : Nat) (h : am_H) {S : Sg} (hC : isS h S) {a b m : Nat} (ha : a < 4) (hb : b < 4) (hne : a ≠ b) (hm1 : 1 ≤ m) (hm : m ≤ 16) : ar Pg X (d + 1 + 1 + 1 + 1 + 1) n_B_runSettling 0 [some (.ref 0), some (.ref (40 + 4 * a)), some (.ref (40 + 4 * b)), some (.int (nI m)), none, none] [] h (fun rr h' => rr = some (.int (stF O S a b m).1) ∧ isS h' (stF O S a b m).2 ∧ fr clL h h') := by
  refine ar_go M_B_runSettling 6 _ 8 _ [some (.ref 0), some (.ref (40 + 4 * a)), some (.ref (40 + 4 * b)), some (.int (nI m)), some (.int (nI m)), none] _ [.int (nI m), .ref (40 + 4 * b), .ref (40 + 4 * a), .ref 0] rfl ?_
  refine ar_CV M_B_runSettling rfl rfl (Or.inl rfl) rfl rfl (Nat.le_of_ble_eq_true rfl) hC.1 M_B_runExchange (Nat.le_of_ble_eq_true rfl) (c_B_runExchange O hOk hE X d _ hC ha hb hne (m := m) (by omega) (by omega)) (fun r1 h2 hq => ?_)
  obtain ⟨rfl, hC2, hf2⟩ := hq
  refine ⟨hf2.1, ?_⟩
  show ar Pg _ _ _ 11 [some (.ref 0), some (.ref (40 + 4 * a)), some (.ref (40 + 4 * b)), some (.int (nI m)), some (.int (nI m)), none] [.int ((exF O S a b m).1)] _ _
  refine ar_go M_B_runSettling 1 _ 13 _ [some (.ref 0), some (.ref (40 + 4 * a)), some (.ref (40 + 4 * b)), some (.int (nI m)), some (.int (nI m)), some (.int ((exF O S a b m).1))] _ [] rfl ?_
  exact c_B_rs_loop O hOk hE X d h ha hb hne 15 m (exF O S a b m) h2 hm1 hm (by omega) hC2 hf2
def tw2 {α : Type} (v w : Int32) (e : α) (f : Nat → Nat → α) : α := if twB v w = true then f v.toNatClampNeg w.toNatClampNeg else e
def exchF (O : exT) (S : Sg) (v w x : Int32) : Int32 × Sg := if (twB v w && rch x) = true then exF O S v.toNatClampNeg w.toNatClampNeg x.toNatClampNeg else (-1, S)
def setF (O : exT) (S : Sg) (v w x : Int32) : Int32 × Sg := if (twB v w && rch x) = true then stF O S v.toNatClampNeg w.toNatClampNeg x.toNatClampNeg else (-1, S)
def listF (S : Sg) (v w : Int32) : Int32 × Sg := if twB v w = true then lsF S v.toNatClampNeg w.toNatClampNeg else (-1, S)
theorem c_B_exchange (O : exT) (hOk : clOk O) (hE : eu_law) (X : am_X) (d : Nat) (h : am_H) {S : Sg} (hC : isS h S) (v w x : Int32) : ar Pg X (d + 1 + 1 + 1 + 1 + 1) n_B_exchange 0 [some (.ref 0), some (.int v), some (.int w), some (.int x)] [] h (fun rr h' => rr = some (.int (exchF O S v w x).1) ∧ isS h' (exchF O S v w x).2 ∧ fr clL h h') := by
  obtain ⟨bf, hb1, hbf⟩ := hC.2.1
  refine ar_go M_B_exchange 2 _ 2 _ [some (.ref 0), some (.int v), some (.int w), some (.int x)] _ [.int w, .int v] rfl ?_
  refine ar_CS M_B_exchange rfl rfl (Nat.le_of_ble_eq_true rfl) rfl rfl (Nat.le_of_ble_eq_true rfl) M_B_areTwoBanks (Nat.le_of_ble_eq_true rfl) (c_B_areTwoBanks X (d + 1 + 1 + 1) _ v w) (fun r1 h1 hq => ?_)
  obtain ⟨rfl, rfl⟩ := hq
  refine ⟨rfl, ?_⟩
  show ar Pg _ _ _ 5 [some (.ref 0), some (.int v), some (.int w), some (.int x)] [.int (bi (twB v w))] _ _
  refine ar_if M_B_exchange rfl rfl (fun hc => ?_) (fun hc => ?_)
  · have hc := bi_eq_t hc
    have hz : exchF O S v w x = (-1, S) := by unfold exchF; rw [if_neg (by rw [hc, Bool.false_and]; decide)]
    refine ar_go M_B_exchange 1 _ 16 _ [some (.ref 0), some (.int v), some (.int w), some (.int x)] _ [.int (-1)] rfl ?_
    exact ar_R M_B_exchange rfl rfl rfl rfl (⟨by rw [hz] <;> rfl, by rw [hz]; exact hC, fr.rf _ _⟩)
  · have hc := bi_eq_f hc
    refine ar_go M_B_exchange 1 _ 9 _ [some (.ref 0), some (.int v), some (.int w), some (.int x)] _ [.int x] rfl ?_
    refine ar_CS M_B_exchange rfl rfl (Nat.le_of_ble_eq_true rfl) rfl rfl (Nat.le_of_ble_eq_true rfl) M_B_isReach (Nat.le_of_ble_eq_true rfl) (c_B_isReach X (d + 1 + 1 + 1 + 1) _ x) (fun r1 h1 hq => ?_)
    obtain ⟨rfl, rfl⟩ := hq
    refine ⟨rfl, ?_⟩
    show ar Pg _ _ _ 12 [some (.ref 0), some (.int v), some (.int w), some (.int x)] [.int (bi (rch x))] _ _
    refine ar_if M_B_exchange rfl rfl (fun hc2 => ?_) (fun hc2 => ?_)
    · have hc2 := bi_ne_t hc2
      have hcc := hc
      obtain ⟨a, b, ha, hb, hne, rfl, rfl⟩ := twB_ex hc
      have hcc2 := hc2
      obtain ⟨m, hm1, hm, rfl⟩ := rch_ex hc2
      have hz : exchF O S (nI a) (nI b) (nI m) = exF O S a b m := by unfold exchF; rw [if_pos (by rw [hcc, hcc2] <;> rfl), nI_clamp (show a < 2 ^ 31 by omega), nI_clamp (show b < 2 ^ 31 by omega), nI_clamp (show m < 2 ^ 31 by omega)]
      refine ar_go M_B_exchange 2 _ 19 _ [some (.ref 0), some (.int (nI a)), some (.int (nI b)), some (.int (nI m))] _ [.ref 0, .ref 0] rfl ?_
      refine ar_get M_B_exchange rfl rfl hC.1 rfl ?_
      refine ar_go M_B_exchange 1 _ 23 _ [some (.ref 0), some (.int (nI a)), some (.int (nI b)), some (.int (nI m))] _ [.int (nI a), .ref 1, .ref 0] rfl ?_
      refine ar_aald M_B_exchange rfl hb1 (Or.inr rfl) (vp_in_nI (by omega) (by decide)) (by rw [nI_clamp (n := a) (by omega)]; exact hbf a (by omega)) ?_
      refine ar_go M_B_exchange 1 _ 25 _ [some (.ref 0), some (.int (nI a)), some (.int (nI b)), some (.int (nI m))] _ [.ref 0, .ref (40 + 4 * a), .ref 0] rfl ?_
      refine ar_get M_B_exchange rfl rfl hC.1 rfl ?_
      refine ar_go M_B_exchange 1 _ 29 _ [some (.ref 0), some (.int (nI a)), some (.int (nI b)), some (.int (nI m))] _ [.int (nI b), .ref 1, .ref (40 + 4 * a), .ref 0] rfl ?_
      refine ar_aald M_B_exchange rfl hb1 (Or.inr rfl) (vp_in_nI (by omega) (by decide)) (by rw [nI_clamp (n := b) (by omega)]; exact hbf b (by omega)) ?_
      refine ar_go M_B_exchange 1 _ 31 _ [some (.ref 0), some (.int (nI a)), some (.int (nI b)), some (.int (nI m))] _ [.int (nI m), .ref (40 + 4 * b), .ref (40 + 4 * a), .ref 0] rfl ?_
      refine ar_CV M_B_exchange rfl rfl (Or.inl rfl) rfl rfl (Nat.le_of_ble_eq_true rfl) hC.1 M_B_runExchange (Nat.le_of_ble_eq_true rfl) (c_B_runExchange O hOk hE X d _ hC ha hb hne (m := m) (by omega) (by omega)) (fun r1 h2 hq => ?_)
      obtain ⟨rfl, hC2, hf2⟩ := hq
      refine ⟨hf2.1, ?_⟩
      show ar Pg _ _ _ 34 [some (.ref 0), some (.int (nI a)), some (.int (nI b)), some (.int (nI m))] [.int ((exF O S a b m).1)] _ _
      exact ar_R M_B_exchange rfl rfl rfl rfl (⟨by rw [hz], by rw [hz]; exact hC2, hf2⟩)
    · have hc2 := bi_ne_f hc2
      have hz : exchF O S v w x = (-1, S) := by unfold exchF; rw [if_neg (by rw [hc2, Bool.and_false]; decide)]
      refine ar_go M_B_exchange 1 _ 16 _ [some (.ref 0), some (.int v), some (.int w), some (.int x)] _ [.int (-1)] rfl ?_
      exact ar_R M_B_exchange rfl rfl rfl rfl (⟨by rw [hz] <;> rfl, by rw [hz]; exact hC, fr.rf _ _⟩)
theorem c_B_settle (O : exT) (hOk : clOk O) (hE : eu_law) (X : am_X) (d : Nat) (h : am_H) {S : Sg} (hC : isS h S) (v w x : Int32) : ar Pg X (d + 1 + 1 + 1 + 1 + 1 + 1) n_B_settle 0 [some (.ref 0), some (.int v), some (.int w), some (.int x)] [] h (fun rr h' => rr = some (.int (setF O S v w x).1) ∧ isS h' (setF O S v w x).2 ∧ fr clL h h') := by
  obtain ⟨bf, hb1, hbf⟩ := hC.2.1
  refine ar_go M_B_settle 2 _ 2 _ [some (.ref 0), some (.int v), some (.int w), some (.int x)] _ [.int w, .int v] rfl ?_
  refine ar_CS M_B_settle rfl rfl (Nat.le_of_ble_eq_true rfl) rfl rfl (Nat.le_of_ble_eq_true rfl) M_B_areTwoBanks (Nat.le_of_ble_eq_true rfl) (c_B_areTwoBanks X (d + 1 + 1 + 1 + 1) _ v w) (fun r1 h1 hq => ?_)
  obtain ⟨rfl, rfl⟩ := hq
  refine ⟨rfl, ?_⟩
  show ar Pg _ _ _ 5 [some (.ref 0), some (.int v), some (.int w), some (.int x)] [.int (bi (twB v w))] _ _
  refine ar_if M_B_settle rfl rfl (fun hc => ?_) (fun hc => ?_)
  · have hc := bi_eq_t hc
    have hz : setF O S v w x = (-1, S) := by unfold setF; rw [if_neg (by rw [hc, Bool.false_and]; decide)]
    refine ar_go M_B_settle 1 _ 16 _ [some (.ref 0), some (.int v), some (.int w), some (.int x)] _ [.int (-1)] rfl ?_
    exact ar_R M_B_settle rfl rfl rfl rfl (⟨by rw [hz] <;> rfl, by rw [hz]; exact hC, fr.rf _ _⟩)
  · have hc := bi_eq_f hc
    refine ar_go M_B_settle 1 _ 9 _ [some (.ref 0), some (.int v), some (.int w), some (.int x)] _ [.int x] rfl ?_
    refine ar_CS M_B_settle rfl rfl (Nat.le_of_ble_eq_true rfl) rfl rfl (Nat.le_of_ble_eq_true rfl) M_B_isReach (Nat.le_of_ble_eq_true rfl) (c_B_isReach X (d + 1 + 1 + 1 + 1 + 1) _ x) (fun r1 h1 hq => ?_)
    obtain ⟨rfl, rfl⟩ := hq
    refine ⟨rfl, ?_⟩
    show ar Pg _ _ _ 12 [some (.ref 0), some (.int v), some (.int w), some (.int x)] [.int (bi (rch x))] _ _
    refine ar_if M_B_settle rfl rfl (fun hc2 => ?_) (fun hc2 => ?_)
    · have hc2 := bi_ne_t hc2
      have hcc := hc
      obtain ⟨a, b, ha, hb, hne, rfl, rfl⟩ := twB_ex hc
      have hcc2 := hc2
      obtain ⟨m, hm1, hm, rfl⟩ := rch_ex hc2
      have hz : setF O S (nI a) (nI b) (nI m) = stF O S a b m := by unfold setF; rw [if_pos (by rw [hcc, hcc2] <;> rfl), nI_clamp (show a < 2 ^ 31 by omega), nI_clamp (show b < 2 ^ 31 by omega), nI_clamp (show m < 2 ^ 31 by omega)]
      refine ar_go M_B_settle 2 _ 19 _ [some (.ref 0), some (.int (nI a)), some (.int (nI b)), some (.int (nI m))] _ [.ref 0, .ref 0] rfl ?_
      refine ar_get M_B_settle rfl rfl hC.1 rfl ?_
      refine ar_go M_B_settle 1 _ 23 _ [some (.ref 0), some (.int (nI a)), some (.int (nI b)), some (.int (nI m))] _ [.int (nI a), .ref 1, .ref 0] rfl ?_
      refine ar_aald M_B_settle rfl hb1 (Or.inr rfl) (vp_in_nI (by omega) (by decide)) (by rw [nI_clamp (n := a) (by omega)]; exact hbf a (by omega)) ?_
      refine ar_go M_B_settle 1 _ 25 _ [some (.ref 0), some (.int (nI a)), some (.int (nI b)), some (.int (nI m))] _ [.ref 0, .ref (40 + 4 * a), .ref 0] rfl ?_
      refine ar_get M_B_settle rfl rfl hC.1 rfl ?_
      refine ar_go M_B_settle 1 _ 29 _ [some (.ref 0), some (.int (nI a)), some (.int (nI b)), some (.int (nI m))] _ [.int (nI b), .ref 1, .ref (40 + 4 * a), .ref 0] rfl ?_
      refine ar_aald M_B_settle rfl hb1 (Or.inr rfl) (vp_in_nI (by omega) (by decide)) (by rw [nI_clamp (n := b) (by omega)]; exact hbf b (by omega)) ?_
      refine ar_go M_B_settle 1 _ 31 _ [some (.ref 0), some (.int (nI a)), some (.int (nI b)), some (.int (nI m))] _ [.int (nI m), .ref (40 + 4 * b), .ref (40 + 4 * a), .ref 0] rfl ?_
      refine ar_CV M_B_settle rfl rfl (Or.inl rfl) rfl rfl (Nat.le_of_ble_eq_true rfl) hC.1 M_B_runSettling (Nat.le_of_ble_eq_true rfl) (c_B_runSettling O hOk hE X d _ hC ha hb hne (m := m) (by omega) (by omega)) (fun r1 h2 hq => ?_)
      obtain ⟨rfl, hC2, hf2⟩ := hq
      refine ⟨hf2.1, ?_⟩
      show ar Pg _ _ _ 34 [some (.ref 0), some (.int (nI a)), some (.int (nI b)), some (.int (nI m))] [.int ((stF O S a b m).1)] _ _
      exact ar_R M_B_settle rfl rfl rfl rfl (⟨by rw [hz], by rw [hz]; exact hC2, hf2⟩)
    · have hc2 := bi_ne_f hc2
      have hz : setF O S v w x = (-1, S) := by unfold setF; rw [if_neg (by rw [hc2, Bool.and_false]; decide)]
      refine ar_go M_B_settle 1 _ 16 _ [some (.ref 0), some (.int v), some (.int w), some (.int x)] _ [.int (-1)] rfl ?_
      exact ar_R M_B_settle rfl rfl rfl rfl (⟨by rw [hz] <;> rfl, by rw [hz]; exact hC, fr.rf _ _⟩)
theorem c_B_list (X : am_X) (d : Nat) (h : am_H) {S : Sg} (hC : isS h S) (v w : Int32) : ar Pg X (d + 1 + 1 + 1 + 1 + 1) n_B_list 0 [some (.ref 0), some (.int v), some (.int w)] [] h (fun rr h' => rr = some (.int (listF S v w).1) ∧ isS h' (listF S v w).2 ∧ fr clL h h') := by
  obtain ⟨bf, hb1, hbf⟩ := hC.2.1
  refine ar_go M_B_list 2 _ 2 _ [some (.ref 0), some (.int v), some (.int w)] _ [.int w, .int v] rfl ?_
  refine ar_CS M_B_list rfl rfl (Nat.le_of_ble_eq_true rfl) rfl rfl (Nat.le_of_ble_eq_true rfl) M_B_areTwoBanks (Nat.le_of_ble_eq_true rfl) (c_B_areTwoBanks X (d + 1 + 1 + 1) _ v w) (fun r1 h1 hq => ?_)
  obtain ⟨rfl, rfl⟩ := hq
  refine ⟨rfl, ?_⟩
  show ar Pg _ _ _ 5 [some (.ref 0), some (.int v), some (.int w)] [.int (bi (twB v w))] _ _
  refine ar_if M_B_list rfl rfl (fun hc => ?_) (fun hc => ?_)
  · have hc := bi_ne_t hc
    have hcc := hc
    obtain ⟨a, b, ha, hb, hne, rfl, rfl⟩ := twB_ex hc
    have hz : listF S (nI a) (nI b) = lsF S a b := by unfold listF; rw [if_pos (by rw [hcc] <;> rfl), nI_clamp (show a < 2 ^ 31 by omega), nI_clamp (show b < 2 ^ 31 by omega)]
    refine ar_go M_B_list 2 _ 12 _ [some (.ref 0), some (.int (nI a)), some (.int (nI b))] _ [.ref 0, .ref 0] rfl ?_
    refine ar_get M_B_list rfl rfl hC.1 rfl ?_
    refine ar_go M_B_list 1 _ 16 _ [some (.ref 0), some (.int (nI a)), some (.int (nI b))] _ [.int (nI a), .ref 1, .ref 0] rfl ?_
    refine ar_aald M_B_list rfl hb1 (Or.inr rfl) (vp_in_nI (by omega) (by decide)) (by rw [nI_clamp (n := a) (by omega)]; exact hbf a (by omega)) ?_
    refine ar_go M_B_list 1 _ 18 _ [some (.ref 0), some (.int (nI a)), some (.int (nI b))] _ [.ref 0, .ref (40 + 4 * a), .ref 0] rfl ?_
    refine ar_get M_B_list rfl rfl hC.1 rfl ?_
    refine ar_go M_B_list 1 _ 22 _ [some (.ref 0), some (.int (nI a)), some (.int (nI b))] _ [.int (nI b), .ref 1, .ref (40 + 4 * a), .ref 0] rfl ?_
    refine ar_aald M_B_list rfl hb1 (Or.inr rfl) (vp_in_nI (by omega) (by decide)) (by rw [nI_clamp (n := b) (by omega)]; exact hbf b (by omega)) ?_
    refine ar_CV M_B_list rfl rfl (Or.inl rfl) rfl rfl (Nat.le_of_ble_eq_true rfl) hC.1 M_B_runListing (Nat.le_of_ble_eq_true rfl) (c_B_runListing X d _ hC ha hb hne) (fun r1 h2 hq => ?_)
    obtain ⟨rfl, hC2, hf2⟩ := hq
    refine ⟨hf2.1, ?_⟩
    show ar Pg _ _ _ 26 [some (.ref 0), some (.int (nI a)), some (.int (nI b))] [.int ((lsF S a b).1)] _ _
    exact ar_R M_B_list rfl rfl rfl rfl (⟨by rw [hz], by rw [hz]; exact hC2, hf2⟩)
  · have hc := bi_ne_f hc
    have hz : listF S v w = (-1, S) := by unfold listF; rw [if_neg (by rw [hc]; decide)]
    refine ar_go M_B_list 1 _ 9 _ [some (.ref 0), some (.int v), some (.int w)] _ [.int (-1)] rfl ?_
    exact ar_R M_B_list rfl rfl rfl rfl (⟨by rw [hz] <;> rfl, by rw [hz]; exact hC, fr.rf _ _⟩)
def sp1 (i : Nat) : Nat := match i with
  | 1 => 2
  | 3 => 2
  | _ => 0
def sp2 (i : Nat) : Nat := match i with
  | 0 => 1
  | 1 => 3
  | 2 => 2
  | 3 => 3
  | _ => 1
def spF (O : exT) (m : Nat) : Nat → Nat → Int32 → Sg → Int32 × Sg
  | 0, _, t, S => (t, S)
  | n + 1, i, t, S => if (stF O S (sp1 i) (sp2 i) m).1 = -3 then (-3, (stF O S (sp1 i) (sp2 i) m).2) else spF O m n (i + 1) (t + (stF O S (sp1 i) (sp2 i) m).1) (stF O S (sp1 i) (sp2 i) m).2
def sprF (O : exT) (S : Sg) (v : Int32) : Int32 × Sg := if rch v = true then spF O v.toNatClampNeg 5 0 0 S else (-1, S)
theorem sp_ok : ∀ i, i < 5 → sp1 i < 4 ∧ sp2 i < 4 ∧ sp1 i ≠ sp2 i ∧ am_s1 i = nI (sp1 i) ∧ am_s2 i = nI (sp2 i) := by decide
theorem c_B_sp_loop (O : exT) (hOk : clOk O) (hE : eu_law) (X : am_X) (hX1 : X 1 = (5, am_s1)) (hX2 : X 2 = (5, am_s2)) (d : Nat) (h : am_H) {m : Nat} (hm1 : 1 ≤ m) (hm : m ≤ 16) : ∀ (n i : Nat) (t : Int32) (S : Sg) (h1 : am_H) (x4 : Option Value), i + n = 5 → isS h1 S → fr clL h h1 → ar Pg X (d + 1 + 1 + 1 + 1 + 1 + 1) n_B_spread 13 [some (.ref 0), some (.int (nI m)), some (.int t), some (.int (nI i)), x4] [] h1 (fun rr h' => rr = some (.int (spF O m n i t S).1) ∧ isS h' (spF O m n i t S).2 ∧ fr clL h h') := by
  intro n
  induction n with
  | zero =>
    intro i t S h1 x4 hi hC hF
    have hi5 : i = 5 := by omega
    subst hi5
    refine ar_go M_B_spread 2 _ 17 _ [some (.ref 0), some (.int (nI m)), some (.int t), some (.int (nI 5)), x4] _ [.ref (am_x0 + 1), .int (nI 5)] rfl ?_
    refine ar_xlen M_B_spread rfl (by decide) ?_
    rw [hX1]
    refine ar_icmp M_B_spread rfl rfl (fun _ => ?_) (fun z => absurd z (by decide))
    refine ar_go M_B_spread 1 _ 70 _ [some (.ref 0), some (.int (nI m)), some (.int t), some (.int (nI 5)), x4] _ [.int t] rfl ?_
    exact ar_R M_B_spread rfl rfl rfl rfl ⟨rfl, hC, hF⟩
  | succ n ih =>
    intro i t S h1 x4 hi hC hF
    obtain ⟨bf, hb1, hbf⟩ := hC.2.1
    refine ar_go M_B_spread 2 _ 17 _ [some (.ref 0), some (.int (nI m)), some (.int t), some (.int (nI i)), x4] _ [.ref (am_x0 + 1), .int (nI i)] rfl ?_
    refine ar_xlen M_B_spread rfl (by decide) ?_
    rw [hX1]
    refine ar_icmp M_B_spread rfl rfl (fun hc => ?_) (fun hc => ?_)
    · have hc := c2_ge_t (a := i) (b := 5) (by omega) (by omega) hc
      omega
    · have hc := c2_ge_f (a := i) (b := 5) (by omega) (by omega) hc
      obtain ⟨hs1, hs2, hne, hq1, hq2⟩ := sp_ok i (by omega)
      refine ar_go M_B_spread 2 _ 23 _ [some (.ref 0), some (.int (nI m)), some (.int t), some (.int (nI i)), x4] _ [.ref 0, .ref 0] rfl ?_
      refine ar_get M_B_spread rfl rfl hC.1 rfl ?_
      refine ar_go M_B_spread 2 _ 30 _ [some (.ref 0), some (.int (nI m)), some (.int t), some (.int (nI i)), x4] _ [.int (nI i), .ref (am_x0 + 1), .ref 1, .ref 0] rfl ?_
      refine ar_xald M_B_spread rfl (by decide) (by rw [hX1]; exact vp_in_nI (by omega) (by decide)) ?_
      rw [hX1, nI_clamp (n := i) (by omega)]
      refine ar_top (w := .int (nI (sp1 i))) (congrArg Value.int hq1) ?_
      refine ar_aald M_B_spread rfl hb1 (Or.inr rfl) (vp_in_nI (by omega) (by decide)) (by rw [nI_clamp (n := (sp1 i)) (by omega)]; exact hbf (sp1 i) (by omega)) ?_
      refine ar_go M_B_spread 1 _ 33 _ [some (.ref 0), some (.int (nI m)), some (.int t), some (.int (nI i)), x4] _ [.ref 0, .ref (40 + 4 * (sp1 i)), .ref 0] rfl ?_
      refine ar_get M_B_spread rfl rfl hC.1 rfl ?_
      refine ar_go M_B_spread 2 _ 40 _ [some (.ref 0), some (.int (nI m)), some (.int t), some (.int (nI i)), x4] _ [.int (nI i), .ref (am_x0 + 2), .ref 1, .ref (40 + 4 * (sp1 i)), .ref 0] rfl ?_
      refine ar_xald M_B_spread rfl (by decide) (by rw [hX2]; exact vp_in_nI (by omega) (by decide)) ?_
      rw [hX2, nI_clamp (n := i) (by omega)]
      refine ar_top (w := .int (nI (sp2 i))) (congrArg Value.int hq2) ?_
      refine ar_aald M_B_spread rfl hb1 (Or.inr rfl) (vp_in_nI (by omega) (by decide)) (by rw [nI_clamp (n := (sp2 i)) (by omega)]; exact hbf (sp2 i) (by omega)) ?_
      refine ar_go M_B_spread 1 _ 43 _ [some (.ref 0), some (.int (nI m)), some (.int t), some (.int (nI i)), x4] _ [.int (nI m), .ref (40 + 4 * (sp2 i)), .ref (40 + 4 * (sp1 i)), .ref 0] rfl ?_
      refine ar_CV M_B_spread rfl rfl (Or.inl rfl) rfl rfl (Nat.le_of_ble_eq_true rfl) hC.1 M_B_runSettling (Nat.le_of_ble_eq_true rfl) (c_B_runSettling O hOk hE X d _ hC hs1 hs2 hne hm1 hm) (fun r1 h2 hq => ?_)
      obtain ⟨rfl, hC2, hf2⟩ := hq
      refine ⟨hf2.1, ?_⟩
      show ar Pg _ _ _ 46 [some (.ref 0), some (.int (nI m)), some (.int t), some (.int (nI i)), x4] [.int ((stF O S (sp1 i) (sp2 i) m).1)] _ _
      refine ar_go M_B_spread 3 _ 52 _ [some (.ref 0), some (.int (nI m)), some (.int t), some (.int (nI i)), some (.int ((stF O S (sp1 i) (sp2 i) m).1))] _ [.int (-3), .int ((stF O S (sp1 i) (sp2 i) m).1)] rfl ?_
      refine ar_icmp M_B_spread rfl rfl (fun hc2 => ?_) (fun hc2 => ?_)
      · have hc2 : ¬ (stF O S (sp1 i) (sp2 i) m).1 = -3 := of_decide_eq_true hc2
        refine ar_go M_B_spread 4 _ 63 _ [some (.ref 0), some (.int (nI m)), some (.int (t + ((stF O S (sp1 i) (sp2 i) m).1))), some (.int (nI i)), some (.int ((stF O S (sp1 i) (sp2 i) m).1))] _ [] rfl ?_
        refine ar_go M_B_spread 1 _ 66 _ [some (.ref 0), some (.int (nI m)), some (.int (t + ((stF O S (sp1 i) (sp2 i) m).1))), some (.int (nI i + Int32.ofInt 1)), some (.int ((stF O S (sp1 i) (sp2 i) m).1))] _ [] rfl ?_
        rw [show nI i + Int32.ofInt 1 = nI (i + 1) from nI_add i 1]
        refine ar_go M_B_spread 1 _ 13 _ [some (.ref 0), some (.int (nI m)), some (.int (t + ((stF O S (sp1 i) (sp2 i) m).1))), some (.int (nI (i + 1))), some (.int ((stF O S (sp1 i) (sp2 i) m).1))] _ [] rfl ?_
        rw [spF, if_neg hc2]
        exact ih (i + 1) _ _ h2 _ (by omega) hC2 (hF.tr hf2 (fun _ z => z) (fun _ z => z))
      · have hc2 : (stF O S (sp1 i) (sp2 i) m).1 = -3 := Decidable.not_not.mp (of_decide_eq_false hc2)
        refine ar_go M_B_spread 1 _ 57 _ [some (.ref 0), some (.int (nI m)), some (.int t), some (.int (nI i)), some (.int ((stF O S (sp1 i) (sp2 i) m).1))] _ [.int (-3)] rfl ?_
        exact ar_R M_B_spread rfl rfl rfl rfl (⟨by rw [spF, if_pos hc2] <;> rfl, by rw [spF, if_pos hc2]; exact hC2, hF.tr hf2 (fun _ z => z) (fun _ z => z)⟩)
theorem c_B_spread (O : exT) (hOk : clOk O) (hE : eu_law) (X : am_X) (hX1 : X 1 = (5, am_s1)) (hX2 : X 2 = (5, am_s2)) (d : Nat) (h : am_H) {S : Sg} (hC : isS h S) (v : Int32) : ar Pg X (d + 1 + 1 + 1 + 1 + 1 + 1) n_B_spread 0 [some (.ref 0), some (.int v), none, none, none] [] h (fun rr h' => rr = some (.int (sprF O S v).1) ∧ isS h' (sprF O S v).2 ∧ fr clL h h') := by
  refine ar_go M_B_spread 1 _ 1 _ [some (.ref 0), some (.int v), none, none, none] _ [.int v] rfl ?_
  refine ar_CS M_B_spread rfl rfl (Nat.le_of_ble_eq_true rfl) rfl rfl (Nat.le_of_ble_eq_true rfl) M_B_isReach (Nat.le_of_ble_eq_true rfl) (c_B_isReach X (d + 1 + 1 + 1 + 1 + 1) _ v) (fun r1 h1 hq => ?_)
  obtain ⟨rfl, rfl⟩ := hq
  refine ⟨rfl, ?_⟩
  show ar Pg _ _ _ 4 [some (.ref 0), some (.int v), none, none, none] [.int (bi (rch v))] _ _
  refine ar_if M_B_spread rfl rfl (fun hc => ?_) (fun hc => ?_)
  · have hc := bi_ne_t hc
    have hcc := hc
    obtain ⟨m, hm1, hm, rfl⟩ := rch_ex hc
    rw [show sprF O S (nI m) = spF O m 5 0 0 S by unfold sprF; rw [if_pos hcc, nI_clamp (show m < 2 ^ 31 by omega)]]
    refine ar_go M_B_spread 4 _ 13 _ [some (.ref 0), some (.int (nI m)), some (.int (nI 0)), some (.int (nI 0)), none] _ [] rfl ?_
    exact c_B_sp_loop O hOk hE X hX1 hX2 d _ hm1 hm 5 0 (nI 0) S _ none rfl hC (fr.rf _ _)
  · have hc := bi_ne_f hc
    have hz : sprF O S v = (-1, S) := by unfold sprF; rw [if_neg (by rw [hc]; decide)]
    refine ar_go M_B_spread 1 _ 8 _ [some (.ref 0), some (.int v), none, none, none] _ [.int (-1)] rfl ?_
    exact ar_R M_B_spread rfl rfl rfl rfl (⟨by rw [hz] <;> rfl, by rw [hz]; exact hC, fr.rf _ _⟩)
