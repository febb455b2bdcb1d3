/-! The reference: spread -/
theorem dlR_c (la lb p1 p2 : Bk) (h : (kn p1 la).length + (kn p2 lb).length < 2147483648) : dlR la lb p1 p2 = -3 ∨ (0 : Int32) ≤ dlR la lb p1 p2 := by
  unfold dlR
  split
  · exact Or.inl rfl
  · exact Or.inr (nI_nn h)
theorem kn_le (p l : Bk) : (kn p l).length ≤ p.length := by
  unfold kn
  exact fil_len _ _ _
theorem exF_c {O : exT} {S : Sg} {a b m : Nat} (ha : (S.1 a).length ≤ 64) (hb : (S.1 b).length ≤ 64) : (exF O S a b m).1 = -4 ∨ (exF O S a b m).1 = -3 ∨ (0 : Int32) ≤ (exF O S a b m).1 := by
  unfold exF
  split
  · exact Or.inl rfl
  · next u U l W _ =>
    split
    · right
      have h1 := kn_le (zr (S.1 b) l W) (S.1 a)
      have h2 := kn_le (zr (S.1 a) u U) (S.1 b)
      have h3 : (zr (S.1 b) l W).length ≤ (S.1 b).length := fil_len _ _ _
      have h4 : (zr (S.1 a) u U).length ≤ (S.1 a).length := fil_len _ _ _
      exact dlR_c _ _ _ _ (by omega)
    · exact Or.inl rfl
theorem lsF_c {S : Sg} {a b : Nat} (ha : (S.1 a).length ≤ 64) (hb : (S.1 b).length ≤ 64) : (lsF S a b).1 = -3 ∨ (0 : Int32) ≤ (lsF S a b).1 := by
  have h1 := kn_le (alB (S.1 b)) (S.1 a)
  have h2 := kn_le (alB (S.1 a)) (S.1 b)
  have h3 : (alB (S.1 b)).length ≤ (S.1 b).length := fil_len _ _ _
  have h4 : (alB (S.1 a)).length ≤ (S.1 a).length := fil_len _ _ _
  exact dlR_c _ _ _ _ (by omega)
/-- some state of the reference holds these banks: they are good -/
theorem bk64 {h : am_H} {S : Sg} (H : isMS h S) {c : Nat} (hc : c < 4) : (S.1 c).length ≤ 64 := (H.b c hc).1
def cls (v : Int32) : Prop := v = -4 ∨ v = -3 ∨ (0 : Int32) ≤ v
theorem slL_c (X : am_X) {a b : Nat} (ha : a < 4) (hb : b < 4) (hab : a ≠ b) : ∀ (n : Nat) (R : Int32 × Sg) (m : Nat) (h1 : am_H), isMS h1 R.2 → cls R.1 → 1 ≤ m → m ≤ 16 → ∃ h2, isMS h2 (slL oO a b n R m).2 ∧ cls (slL oO a b n R m).1
  | 0, R, m, h1, hS, hR, _, _ => ⟨h1, hS, hR⟩
  | n + 1, R, m, h1, hS, hR, hm1, hm => by
    rw [slL]
    by_cases hc : R.1 = -4 ∧ m < 16
    · rw [if_pos hc]
      obtain ⟨_, _, h2, _, _, _, hS2⟩ := c_M_exchanged X 0 h1 hS (m := mn m) ha hb hab (by unfold mn; split <;> omega) (by unfold mn; split <;> omega)
      exact slL_c X ha hb hab n (exF oO R.2 a b (mn m)) (mn m) h2 hS2 (exF_c (bk64 hS ha) (bk64 hS hb)) (by unfold mn; split <;> omega) (by unfold mn; split <;> omega)
    · rw [if_neg hc]
      exact ⟨h1, hS, hR⟩
theorem stF_c (X : am_X) {S : Sg} {h1 : am_H} {a b m : Nat} (hS : isMS h1 S) (ha : a < 4) (hb : b < 4) (hab : a ≠ b) (hm1 : 1 ≤ m) (hm : m ≤ 16) : (stF oO S a b m).1 = -3 ∨ (0 : Int32) ≤ (stF oO S a b m).1 := by
  obtain ⟨_, _, h2, _, _, _, hS2⟩ := c_M_exchanged X 0 h1 hS (m := m) ha hb hab hm1 hm
  obtain ⟨h3, hS3, hc3⟩ := slL_c X ha hb hab 15 (exF oO S a b m) m h2 hS2 (exF_c (bk64 hS ha) (bk64 hS hb)) hm1 hm
  unfold stF
  by_cases h4 : (slL oO a b 15 (exF oO S a b m) m).1 = -4
  · rw [if_pos h4]
    exact lsF_c (bk64 hS3 ha) (bk64 hS3 hb)
  · rw [if_neg h4]
    rcases hc3 with z | z
    · exact absurd z h4
    · exact z
theorem c_M_sp_5 (X : am_X) (d : Nat) (h : am_H) {m : Nat} (hm1 : 1 ≤ m) (hm : m ≤ 16) (hsc : ∀ (S : Sg) (h1 : am_H) (a b : Nat), isMS h1 S → a < 4 → b < 4 → a ≠ b → (stF oO S a b m).1 = -3 ∨ (0 : Int32) ≤ (stF oO S a b m).1) (h1 : am_H) (S : Sg) (t : Int32) (x4 x5 x6 : Option Value) (hS : isMS h1 S) (hF : fr mLs h h1) : ar Pg X (d + 1 + 1 + 1 + 1 + 1 + 1 + 1) n_M_spread 13 [some (.ref 56), some (.int (nI m)), some (.int t), some (.int (nI 5)), x4, x5, x6] [] h1 (fun rr h' => rr = some (.int (spF oO m 0 5 t S).1) ∧ fr mLs h h' ∧ isMS h' (spF oO m 0 5 t S).2) := by
  obtain ⟨fs, h56⟩ := hS.o
  refine ar_go M_M_spread 2 _ 15 _ [some (.ref 56), some (.int (nI m)), some (.int t), some (.int (nI 5)), x4, x5, x6] _ [.int (nI 5), .int (nI 5)] rfl ?_
  refine ar_icmp M_M_spread rfl rfl (fun _ => ?_) (fun z => absurd z (by decide))
  refine ar_go M_M_spread 1 _ 92 _ [some (.ref 56), some (.int (nI m)), some (.int t), some (.int (nI 5)), x4, x5, x6] _ [.int t] rfl ?_
  exact ar_R M_M_spread rfl rfl rfl rfl (⟨rfl, hF, hS⟩)
theorem c_M_sp_4 (X : am_X) (d : Nat) (h : am_H) {m : Nat} (hm1 : 1 ≤ m) (hm : m ≤ 16) (hsc : ∀ (S : Sg) (h1 : am_H) (a b : Nat), isMS h1 S → a < 4 → b < 4 → a ≠ b → (stF oO S a b m).1 = -3 ∨ (0 : Int32) ≤ (stF oO S a b m).1) (h1 : am_H) (S : Sg) (t : Int32) (x4 x5 x6 : Option Value) (hS : isMS h1 S) (hF : fr mLs h h1) : ar Pg X (d + 1 + 1 + 1 + 1 + 1 + 1 + 1) n_M_spread 13 [some (.ref 56), some (.int (nI m)), some (.int t), some (.int (nI 4)), x4, x5, x6] [] h1 (fun rr h' => rr = some (.int (spF oO m 1 4 t S).1) ∧ fr mLs h h' ∧ isMS h' (spF oO m 1 4 t S).2) := by
  obtain ⟨fs, h56⟩ := hS.o
  refine ar_go M_M_spread 2 _ 15 _ [some (.ref 56), some (.int (nI m)), some (.int t), some (.int (nI 4)), x4, x5, x6] _ [.int (nI 5), .int (nI 4)] rfl ?_
  refine ar_icmp M_M_spread rfl rfl (fun z => absurd z (by decide)) (fun _ => ?_)
  refine ar_go M_M_spread 2 _ 20 _ [some (.ref 56), some (.int (nI m)), some (.int t), some (.int (nI 4)), x4, x5, x6] _ [.int (nI 1), .int (nI 4)] rfl ?_
  refine ar_icmp M_M_spread rfl rfl (fun z => absurd z (by decide)) (fun _ => ?_)
  refine ar_go M_M_spread 2 _ 25 _ [some (.ref 56), some (.int (nI m)), some (.int t), some (.int (nI 4)), x4, x5, x6] _ [.int (nI 3), .int (nI 4)] rfl ?_
  refine ar_icmp M_M_spread rfl rfl (fun _ => ?_) (fun z => absurd z (by decide))
  refine ar_go M_M_spread 4 _ 37 _ [some (.ref 56), some (.int (nI m)), some (.int t), some (.int (nI 4)), some (.int (nI 0)), x5, x6] _ [.int (nI 1), .int (nI 4)] rfl ?_
  refine ar_icmp M_M_spread rfl rfl (fun z => absurd z (by decide)) (fun _ => ?_)
  refine ar_go M_M_spread 2 _ 42 _ [some (.ref 56), some (.int (nI m)), some (.int t), some (.int (nI 4)), some (.int (nI 0)), x5, x6] _ [.int (nI 3), .int (nI 4)] rfl ?_
  refine ar_icmp M_M_spread rfl rfl (fun _ => ?_) (fun z => absurd z (by decide))
  refine ar_go M_M_spread 2 _ 51 _ [some (.ref 56), some (.int (nI m)), some (.int t), some (.int (nI 4)), some (.int (nI 0)), x5, x6] _ [.int (nI 2), .int (nI 4)] rfl ?_
  refine ar_icmp M_M_spread rfl rfl (fun _ => ?_) (fun z => absurd z (by decide))
  refine ar_go M_M_spread 6 _ 67 _ [some (.ref 56), some (.int (nI m)), some (.int t), some (.int (nI 4)), some (.int (nI 0)), some (.int (nI 1)), x6] _ [.int (nI m), .int (nI 1), .int (nI 0), .ref 56] rfl ?_
  refine ar_CV M_M_spread rfl rfl (Or.inl rfl) rfl rfl (Nat.le_of_ble_eq_true rfl) h56 M_M_settled (Nat.le_of_ble_eq_true rfl) (c_M_settled X d _ hS (a := 0) (b := 1) (by decide) (by decide) (by decide) hm1 hm) (fun r1 h2 hq => ?_)
  obtain ⟨rfl, hf, hS2⟩ := hq
  refine ⟨hf.1, ?_⟩
  show ar Pg _ _ _ 70 [some (.ref 56), some (.int (nI m)), some (.int t), some (.int (nI 4)), some (.int (nI 0)), some (.int (nI 1)), x6] [.int ((stF oO S 0 1 m).1)] _ _
  have hcs := hsc S h1 0 1 hS (by decide) (by decide) (by decide)
  have hF2 : fr mLs h h2 := hF.tr hf (fun _ z => z) (fun _ z => z)
  rw [spF, show sp1 4 = 0 from rfl, show sp2 4 = 1 from rfl]
  generalize stF oO S 0 1 m = R at *
  refine ar_go M_M_spread 2 _ 74 _ [some (.ref 56), some (.int (nI m)), some (.int t), some (.int (nI 4)), some (.int (nI 0)), some (.int (nI 1)), some (.int R.1)] _ [.int R.1] rfl ?_
  by_cases h3 : R.1 = -3
  · rw [if_pos h3]
    refine ar_if M_M_spread rfl rfl (fun z => absurd z (by rw [h3]; decide)) (fun _ => ?_)
    refine ar_go M_M_spread 1 _ 79 _ [some (.ref 56), some (.int (nI m)), some (.int t), some (.int (nI 4)), some (.int (nI 0)), some (.int (nI 1)), some (.int R.1)] _ [.int R.1] rfl ?_
    exact ar_R M_M_spread rfl rfl rfl rfl (⟨by rw [h3], hF2, hS2⟩)
  · rw [if_neg h3]
    have hge : (0 : Int32) ≤ R.1 := by rcases hcs with z | z; exact absurd z h3; exact z
    refine ar_if M_M_spread rfl rfl (fun _ => ?_) (fun z => absurd hge (of_decide_eq_false z))
    refine ar_go M_M_spread 4 _ 85 _ [some (.ref 56), some (.int (nI m)), some (.int (t + R.1)), some (.int (nI 4)), some (.int (nI 0)), some (.int (nI 1)), some (.int R.1)] _ [] rfl ?_
    refine ar_go M_M_spread 1 _ 88 _ [some (.ref 56), some (.int (nI m)), some (.int (t + R.1)), some (.int (nI 4 + Int32.ofInt 1)), some (.int (nI 0)), some (.int (nI 1)), some (.int R.1)] _ [] rfl ?_
    rw [show nI 4 + Int32.ofInt 1 = nI (4 + 1) from nI_add 4 1]
    refine ar_go M_M_spread 1 _ 13 _ [some (.ref 56), some (.int (nI m)), some (.int (t + R.1)), some (.int (nI (4 + 1))), some (.int (nI 0)), some (.int (nI 1)), some (.int R.1)] _ [] rfl ?_
    exact c_M_sp_5 X d h hm1 hm hsc h2 R.2 (t + R.1) _ _ _ hS2 hF2
theorem c_M_sp_3 (X : am_X) (d : Nat) (h : am_H) {m : Nat} (hm1 : 1 ≤ m) (hm : m ≤ 16) (hsc : ∀ (S : Sg) (h1 : am_H) (a b : Nat), isMS h1 S → a < 4 → b < 4 → a ≠ b → (stF oO S a b m).1 = -3 ∨ (0 : Int32) ≤ (stF oO S a b m).1) (h1 : am_H) (S : Sg) (t : Int32) (x4 x5 x6 : Option Value) (hS : isMS h1 S) (hF : fr mLs h h1) : ar Pg X (d + 1 + 1 + 1 + 1 + 1 + 1 + 1) n_M_spread 13 [some (.ref 56), some (.int (nI m)), some (.int t), some (.int (nI 3)), x4, x5, x6] [] h1 (fun rr h' => rr = some (.int (spF oO m 2 3 t S).1) ∧ fr mLs h h' ∧ isMS h' (spF oO m 2 3 t S).2) := by
  obtain ⟨fs, h56⟩ := hS.o
  refine ar_go M_M_spread 2 _ 15 _ [some (.ref 56), some (.int (nI m)), some (.int t), some (.int (nI 3)), x4, x5, x6] _ [.int (nI 5), .int (nI 3)] rfl ?_
  refine ar_icmp M_M_spread rfl rfl (fun z => absurd z (by decide)) (fun _ => ?_)
  refine ar_go M_M_spread 2 _ 20 _ [some (.ref 56), some (.int (nI m)), some (.int t), some (.int (nI 3)), x4, x5, x6] _ [.int (nI 1), .int (nI 3)] rfl ?_
  refine ar_icmp M_M_spread rfl rfl (fun z => absurd z (by decide)) (fun _ => ?_)
  refine ar_go M_M_spread 2 _ 25 _ [some (.ref 56), some (.int (nI m)), some (.int t), some (.int (nI 3)), x4, x5, x6] _ [.int (nI 3), .int (nI 3)] rfl ?_
  refine ar_icmp M_M_spread rfl rfl (fun z => absurd z (by decide)) (fun _ => ?_)
  refine ar_go M_M_spread 5 _ 37 _ [some (.ref 56), some (.int (nI m)), some (.int t), some (.int (nI 3)), some (.int (nI 2)), x5, x6] _ [.int (nI 1), .int (nI 3)] rfl ?_
  refine ar_icmp M_M_spread rfl rfl (fun z => absurd z (by decide)) (fun _ => ?_)
  refine ar_go M_M_spread 2 _ 42 _ [some (.ref 56), some (.int (nI m)), some (.int t), some (.int (nI 3)), some (.int (nI 2)), x5, x6] _ [.int (nI 3), .int (nI 3)] rfl ?_
  refine ar_icmp M_M_spread rfl rfl (fun z => absurd z (by decide)) (fun _ => ?_)
  refine ar_go M_M_spread 7 _ 67 _ [some (.ref 56), some (.int (nI m)), some (.int t), some (.int (nI 3)), some (.int (nI 2)), some (.int (nI 3)), x6] _ [.int (nI m), .int (nI 3), .int (nI 2), .ref 56] rfl ?_
  refine ar_CV M_M_spread rfl rfl (Or.inl rfl) rfl rfl (Nat.le_of_ble_eq_true rfl) h56 M_M_settled (Nat.le_of_ble_eq_true rfl) (c_M_settled X d _ hS (a := 2) (b := 3) (by decide) (by decide) (by decide) hm1 hm) (fun r1 h2 hq => ?_)
  obtain ⟨rfl, hf, hS2⟩ := hq
  refine ⟨hf.1, ?_⟩
  show ar Pg _ _ _ 70 [some (.ref 56), some (.int (nI m)), some (.int t), some (.int (nI 3)), some (.int (nI 2)), some (.int (nI 3)), x6] [.int ((stF oO S 2 3 m).1)] _ _
  have hcs := hsc S h1 2 3 hS (by decide) (by decide) (by decide)
  have hF2 : fr mLs h h2 := hF.tr hf (fun _ z => z) (fun _ z => z)
  rw [spF, show sp1 3 = 2 from rfl, show sp2 3 = 3 from rfl]
  generalize stF oO S 2 3 m = R at *
  refine ar_go M_M_spread 2 _ 74 _ [some (.ref 56), some (.int (nI m)), some (.int t), some (.int (nI 3)), some (.int (nI 2)), some (.int (nI 3)), some (.int R.1)] _ [.int R.1] rfl ?_
  by_cases h3 : R.1 = -3
  · rw [if_pos h3]
    refine ar_if M_M_spread rfl rfl (fun z => absurd z (by rw [h3]; decide)) (fun _ => ?_)
    refine ar_go M_M_spread 1 _ 79 _ [some (.ref 56), some (.int (nI m)), some (.int t), some (.int (nI 3)), some (.int (nI 2)), some (.int (nI 3)), some (.int R.1)] _ [.int R.1] rfl ?_
    exact ar_R M_M_spread rfl rfl rfl rfl (⟨by rw [h3], hF2, hS2⟩)
  · rw [if_neg h3]
    have hge : (0 : Int32) ≤ R.1 := by rcases hcs with z | z; exact absurd z h3; exact z
    refine ar_if M_M_spread rfl rfl (fun _ => ?_) (fun z => absurd hge (of_decide_eq_false z))
    refine ar_go M_M_spread 4 _ 85 _ [some (.ref 56), some (.int (nI m)), some (.int (t + R.1)), some (.int (nI 3)), some (.int (nI 2)), some (.int (nI 3)), some (.int R.1)] _ [] rfl ?_
    refine ar_go M_M_spread 1 _ 88 _ [some (.ref 56), some (.int (nI m)), some (.int (t + R.1)), some (.int (nI 3 + Int32.ofInt 1)), some (.int (nI 2)), some (.int (nI 3)), some (.int R.1)] _ [] rfl ?_
    rw [show nI 3 + Int32.ofInt 1 = nI (3 + 1) from nI_add 3 1]
    refine ar_go M_M_spread 1 _ 13 _ [some (.ref 56), some (.int (nI m)), some (.int (t + R.1)), some (.int (nI (3 + 1))), some (.int (nI 2)), some (.int (nI 3)), some (.int R.1)] _ [] rfl ?_
    exact c_M_sp_4 X d h hm1 hm hsc h2 R.2 (t + R.1) _ _ _ hS2 hF2
theorem c_M_sp_2 (X : am_X) (d : Nat) (h : am_H) {m : Nat} (hm1 : 1 ≤ m) (hm : m ≤ 16) (hsc : ∀ (S : Sg) (h1 : am_H) (a b : Nat), isMS h1 S → a < 4 → b < 4 → a ≠ b → (stF oO S a b m).1 = -3 ∨ (0 : Int32) ≤ (stF oO S a b m).1) (h1 : am_H) (S : Sg) (t : Int32) (x4 x5 x6 : Option Value) (hS : isMS h1 S) (hF : fr mLs h h1) : ar Pg X (d + 1 + 1 + 1 + 1 + 1 + 1 + 1) n_M_spread 13 [some (.ref 56), some (.int (nI m)), some (.int t), some (.int (nI 2)), x4, x5, x6] [] h1 (fun rr h' => rr = some (.int (spF oO m 3 2 t S).1) ∧ fr mLs h h' ∧ isMS h' (spF oO m 3 2 t S).2) := by
  obtain ⟨fs, h56⟩ := hS.o
  refine ar_go M_M_spread 2 _ 15 _ [some (.ref 56), some (.int (nI m)), some (.int t), some (.int (nI 2)), x4, x5, x6] _ [.int (nI 5), .int (nI 2)] rfl ?_
  refine ar_icmp M_M_spread rfl rfl (fun z => absurd z (by decide)) (fun _ => ?_)
  refine ar_go M_M_spread 2 _ 20 _ [some (.ref 56), some (.int (nI m)), some (.int t), some (.int (nI 2)), x4, x5, x6] _ [.int (nI 1), .int (nI 2)] rfl ?_
  refine ar_icmp M_M_spread rfl rfl (fun z => absurd z (by decide)) (fun _ => ?_)
  refine ar_go M_M_spread 2 _ 25 _ [some (.ref 56), some (.int (nI m)), some (.int t), some (.int (nI 2)), x4, x5, x6] _ [.int (nI 3), .int (nI 2)] rfl ?_
  refine ar_icmp M_M_spread rfl rfl (fun _ => ?_) (fun z => absurd z (by decide))
  refine ar_go M_M_spread 4 _ 37 _ [some (.ref 56), some (.int (nI m)), some (.int t), some (.int (nI 2)), some (.int (nI 0)), x5, x6] _ [.int (nI 1), .int (nI 2)] rfl ?_
  refine ar_icmp M_M_spread rfl rfl (fun z => absurd z (by decide)) (fun _ => ?_)
  refine ar_go M_M_spread 2 _ 42 _ [some (.ref 56), some (.int (nI m)), some (.int t), some (.int (nI 2)), some (.int (nI 0)), x5, x6] _ [.int (nI 3), .int (nI 2)] rfl ?_
  refine ar_icmp M_M_spread rfl rfl (fun _ => ?_) (fun z => absurd z (by decide))
  refine ar_go M_M_spread 2 _ 51 _ [some (.ref 56), some (.int (nI m)), some (.int t), some (.int (nI 2)), some (.int (nI 0)), x5, x6] _ [.int (nI 2), .int (nI 2)] rfl ?_
  refine ar_icmp M_M_spread rfl rfl (fun z => absurd z (by decide)) (fun _ => ?_)
  refine ar_go M_M_spread 7 _ 67 _ [some (.ref 56), some (.int (nI m)), some (.int t), some (.int (nI 2)), some (.int (nI 0)), some (.int (nI 2)), x6] _ [.int (nI m), .int (nI 2), .int (nI 0), .ref 56] rfl ?_
  refine ar_CV M_M_spread rfl rfl (Or.inl rfl) rfl rfl (Nat.le_of_ble_eq_true rfl) h56 M_M_settled (Nat.le_of_ble_eq_true rfl) (c_M_settled X d _ hS (a := 0) (b := 2) (by decide) (by decide) (by decide) hm1 hm) (fun r1 h2 hq => ?_)
  obtain ⟨rfl, hf, hS2⟩ := hq
  refine ⟨hf.1, ?_⟩
  show ar Pg _ _ _ 70 [some (.ref 56), some (.int (nI m)), some (.int t), some (.int (nI 2)), some (.int (nI 0)), some (.int (nI 2)), x6] [.int ((stF oO S 0 2 m).1)] _ _
  have hcs := hsc S h1 0 2 hS (by decide) (by decide) (by decide)
  have hF2 : fr mLs h h2 := hF.tr hf (fun _ z => z) (fun _ z => z)
  rw [spF, show sp1 2 = 0 from rfl, show sp2 2 = 2 from rfl]
  generalize stF oO S 0 2 m = R at *
  refine ar_go M_M_spread 2 _ 74 _ [some (.ref 56), some (.int (nI m)), some (.int t), some (.int (nI 2)), some (.int (nI 0)), some (.int (nI 2)), some (.int R.1)] _ [.int R.1] rfl ?_
  by_cases h3 : R.1 = -3
  · rw [if_pos h3]
    refine ar_if M_M_spread rfl rfl (fun z => absurd z (by rw [h3]; decide)) (fun _ => ?_)
    refine ar_go M_M_spread 1 _ 79 _ [some (.ref 56), some (.int (nI m)), some (.int t), some (.int (nI 2)), some (.int (nI 0)), some (.int (nI 2)), some (.int R.1)] _ [.int R.1] rfl ?_
    exact ar_R M_M_spread rfl rfl rfl rfl (⟨by rw [h3], hF2, hS2⟩)
  · rw [if_neg h3]
    have hge : (0 : Int32) ≤ R.1 := by rcases hcs with z | z; exact absurd z h3; exact z
    refine ar_if M_M_spread rfl rfl (fun _ => ?_) (fun z => absurd hge (of_decide_eq_false z))
    refine ar_go M_M_spread 4 _ 85 _ [some (.ref 56), some (.int (nI m)), some (.int (t + R.1)), some (.int (nI 2)), some (.int (nI 0)), some (.int (nI 2)), some (.int R.1)] _ [] rfl ?_
    refine ar_go M_M_spread 1 _ 88 _ [some (.ref 56), some (.int (nI m)), some (.int (t + R.1)), some (.int (nI 2 + Int32.ofInt 1)), some (.int (nI 0)), some (.int (nI 2)), some (.int R.1)] _ [] rfl ?_
    rw [show nI 2 + Int32.ofInt 1 = nI (2 + 1) from nI_add 2 1]
    refine ar_go M_M_spread 1 _ 13 _ [some (.ref 56), some (.int (nI m)), some (.int (t + R.1)), some (.int (nI (2 + 1))), some (.int (nI 0)), some (.int (nI 2)), some (.int R.1)] _ [] rfl ?_
    exact c_M_sp_3 X d h hm1 hm hsc h2 R.2 (t + R.1) _ _ _ hS2 hF2
theorem c_M_sp_1 (X : am_X) (d : Nat) (h : am_H) {m : Nat} (hm1 : 1 ≤ m) (hm : m ≤ 16) (hsc : ∀ (S : Sg) (h1 : am_H) (a b : Nat), isMS h1 S → a < 4 → b < 4 → a ≠ b → (stF oO S a b m).1 = -3 ∨ (0 : Int32) ≤ (stF oO S a b m).1) (h1 : am_H) (S : Sg) (t : Int32) (x4 x5 x6 : Option Value) (hS : isMS h1 S) (hF : fr mLs h h1) : ar Pg X (d + 1 + 1 + 1 + 1 + 1 + 1 + 1) n_M_spread 13 [some (.ref 56), some (.int (nI m)), some (.int t), some (.int (nI 1)), x4, x5, x6] [] h1 (fun rr h' => rr = some (.int (spF oO m 4 1 t S).1) ∧ fr mLs h h' ∧ isMS h' (spF oO m 4 1 t S).2) := by
  obtain ⟨fs, h56⟩ := hS.o
  refine ar_go M_M_spread 2 _ 15 _ [some (.ref 56), some (.int (nI m)), some (.int t), some (.int (nI 1)), x4, x5, x6] _ [.int (nI 5), .int (nI 1)] rfl ?_
  refine ar_icmp M_M_spread rfl rfl (fun z => absurd z (by decide)) (fun _ => ?_)
  refine ar_go M_M_spread 2 _ 20 _ [some (.ref 56), some (.int (nI m)), some (.int t), some (.int (nI 1)), x4, x5, x6] _ [.int (nI 1), .int (nI 1)] rfl ?_
  refine ar_icmp M_M_spread rfl rfl (fun _ => ?_) (fun z => absurd z (by decide))
  refine ar_go M_M_spread 5 _ 37 _ [some (.ref 56), some (.int (nI m)), some (.int t), some (.int (nI 1)), some (.int (nI 2)), x5, x6] _ [.int (nI 1), .int (nI 1)] rfl ?_
  refine ar_icmp M_M_spread rfl rfl (fun _ => ?_) (fun z => absurd z (by decide))
  refine ar_go M_M_spread 7 _ 67 _ [some (.ref 56), some (.int (nI m)), some (.int t), some (.int (nI 1)), some (.int (nI 2)), some (.int (nI 3)), x6] _ [.int (nI m), .int (nI 3), .int (nI 2), .ref 56] rfl ?_
  refine ar_CV M_M_spread rfl rfl (Or.inl rfl) rfl rfl (Nat.le_of_ble_eq_true rfl) h56 M_M_settled (Nat.le_of_ble_eq_true rfl) (c_M_settled X d _ hS (a := 2) (b := 3) (by decide) (by decide) (by decide) hm1 hm) (fun r1 h2 hq => ?_)
  obtain ⟨rfl, hf, hS2⟩ := hq
  refine ⟨hf.1, ?_⟩
  show ar Pg _ _ _ 70 [some (.ref 56), some (.int (nI m)), some (.int t), some (.int (nI 1)), some (.int (nI 2)), some (.int (nI 3)), x6] [.int ((stF oO S 2 3 m).1)] _ _
  have hcs := hsc S h1 2 3 hS (by decide) (by decide) (by decide)
  have hF2 : fr mLs h h2 := hF.tr hf (fun _ z => z) (fun _ z => z)
  rw [spF, show sp1 1 = 2 from rfl, show sp2 1 = 3 from rfl]
  generalize stF oO S 2 3 m = R at *
  refine ar_go M_M_spread 2 _ 74 _ [some (.ref 56), some (.int (nI m)), some (.int t), some (.int (nI 1)), some (.int (nI 2)), some (.int (nI 3)), some (.int R.1)] _ [.int R.1] rfl ?_
  by_cases h3 : R.1 = -3
  · rw [if_pos h3]
    refine ar_if M_M_spread rfl rfl (fun z => absurd z (by rw [h3]; decide)) (fun _ => ?_)
    refine ar_go M_M_spread 1 _ 79 _ [some (.ref 56), some (.int (nI m)), some (.int t), some (.int (nI 1)), some (.int (nI 2)), some (.int (nI 3)), some (.int R.1)] _ [.int R.1] rfl ?_
    exact ar_R M_M_spread rfl rfl rfl rfl (⟨by rw [h3], hF2, hS2⟩)
  · rw [if_neg h3]
    have hge : (0 : Int32) ≤ R.1 := by rcases hcs with z | z; exact absurd z h3; exact z
    refine ar_if M_M_spread rfl rfl (fun _ => ?_) (fun z => absurd hge (of_decide_eq_false z))
    refine ar_go M_M_spread 4 _ 85 _ [some (.ref 56), some (.int (nI m)), some (.int (t + R.1)), some (.int (nI 1)), some (.int (nI 2)), some (.int (nI 3)), some (.int R.1)] _ [] rfl ?_
    refine ar_go M_M_spread 1 _ 88 _ [some (.ref 56), some (.int (nI m)), some (.int (t + R.1)), some (.int (nI 1 + Int32.ofInt 1)), some (.int (nI 2)), some (.int (nI 3)), some (.int R.1)] _ [] rfl ?_
    rw [show nI 1 + Int32.ofInt 1 = nI (1 + 1) from nI_add 1 1]
    refine ar_go M_M_spread 1 _ 13 _ [some (.ref 56), some (.int (nI m)), some (.int (t + R.1)), some (.int (nI (1 + 1))), some (.int (nI 2)), some (.int (nI 3)), some (.int R.1)] _ [] rfl ?_
    exact c_M_sp_2 X d h hm1 hm hsc h2 R.2 (t + R.1) _ _ _ hS2 hF2
theorem c_M_sp_0 (X : am_X) (d : Nat) (h : am_H) {m : Nat} (hm1 : 1 ≤ m) (hm : m ≤ 16) (hsc : ∀ (S : Sg) (h1 : am_H) (a b : Nat), isMS h1 S → a < 4 → b < 4 → a ≠ b → (stF oO S a b m).1 = -3 ∨ (0 : Int32) ≤ (stF oO S a b m).1) (h1 : am_H) (S : Sg) (t : Int32) (x4 x5 x6 : Option Value) (hS : isMS h1 S) (hF : fr mLs h h1) : ar Pg X (d + 1 + 1 + 1 + 1 + 1 + 1 + 1) n_M_spread 13 [some (.ref 56), some (.int (nI m)), some (.int t), some (.int (nI 0)), x4, x5, x6] [] h1 (fun rr h' => rr = some (.int (spF oO m 5 0 t S).1) ∧ fr mLs h h' ∧ isMS h' (spF oO m 5 0 t S).2) := by
  obtain ⟨fs, h56⟩ := hS.o
  refine ar_go M_M_spread 2 _ 15 _ [some (.ref 56), some (.int (nI m)), some (.int t), some (.int (nI 0)), x4, x5, x6] _ [.int (nI 5), .int (nI 0)] rfl ?_
  refine ar_icmp M_M_spread rfl rfl (fun z => absurd z (by decide)) (fun _ => ?_)
  refine ar_go M_M_spread 2 _ 20 _ [some (.ref 56), some (.int (nI m)), some (.int t), some (.int (nI 0)), x4, x5, x6] _ [.int (nI 1), .int (nI 0)] rfl ?_
  refine ar_icmp M_M_spread rfl rfl (fun z => absurd z (by decide)) (fun _ => ?_)
  refine ar_go M_M_spread 2 _ 25 _ [some (.ref 56), some (.int (nI m)), some (.int t), some (.int (nI 0)), x4, x5, x6] _ [.int (nI 3), .int (nI 0)] rfl ?_
  refine ar_icmp M_M_spread rfl rfl (fun _ => ?_) (fun z => absurd z (by decide))
  refine ar_go M_M_spread 4 _ 37 _ [some (.ref 56), some (.int (nI m)), some (.int t), some (.int (nI 0)), some (.int (nI 0)), x5, x6] _ [.int (nI 1), .int (nI 0)] rfl ?_
  refine ar_icmp M_M_spread rfl rfl (fun z => absurd z (by decide)) (fun _ => ?_)
  refine ar_go M_M_spread 2 _ 42 _ [some (.ref 56), some (.int (nI m)), some (.int t), some (.int (nI 0)), some (.int (nI 0)), x5, x6] _ [.int (nI 3), .int (nI 0)] rfl ?_
  refine ar_icmp M_M_spread rfl rfl (fun _ => ?_) (fun z => absurd z (by decide))
  refine ar_go M_M_spread 2 _ 51 _ [some (.ref 56), some (.int (nI m)), some (.int t), some (.int (nI 0)), some (.int (nI 0)), x5, x6] _ [.int (nI 2), .int (nI 0)] rfl ?_
  refine ar_icmp M_M_spread rfl rfl (fun _ => ?_) (fun z => absurd z (by decide))
  refine ar_go M_M_spread 6 _ 67 _ [some (.ref 56), some (.int (nI m)), some (.int t), some (.int (nI 0)), some (.int (nI 0)), some (.int (nI 1)), x6] _ [.int (nI m), .int (nI 1), .int (nI 0), .ref 56] rfl ?_
  refine ar_CV M_M_spread rfl rfl (Or.inl rfl) rfl rfl (Nat.le_of_ble_eq_true rfl) h56 M_M_settled (Nat.le_of_ble_eq_true rfl) (c_M_settled X d _ hS (a := 0) (b := 1) (by decide) (by decide) (by decide) hm1 hm) (fun r1 h2 hq => ?_)
  obtain ⟨rfl, hf, hS2⟩ := hq
  refine ⟨hf.1, ?_⟩
  show ar Pg _ _ _ 70 [some (.ref 56), some (.int (nI m)), some (.int t), some (.int (nI 0)), some (.int (nI 0)), some (.int (nI 1)), x6] [.int ((stF oO S 0 1 m).1)] _ _
  have hcs := hsc S h1 0 1 hS (by decide) (by decide) (by decide)
  have hF2 : fr mLs h h2 := hF.tr hf (fun _ z => z) (fun _ z => z)
  rw [spF, show sp1 0 = 0 from rfl, show sp2 0 = 1 from rfl]
  generalize stF oO S 0 1 m = R at *
  refine ar_go M_M_spread 2 _ 74 _ [some (.ref 56), some (.int (nI m)), some (.int t), some (.int (nI 0)), some (.int (nI 0)), some (.int (nI 1)), some (.int R.1)] _ [.int R.1] rfl ?_
  by_cases h3 : R.1 = -3
  · rw [if_pos h3]
    refine ar_if M_M_spread rfl rfl (fun z => absurd z (by rw [h3]; decide)) (fun _ => ?_)
    refine ar_go M_M_spread 1 _ 79 _ [some (.ref 56), some (.int (nI m)), some (.int t), some (.int (nI 0)), some (.int (nI 0)), some (.int (nI 1)), some (.int R.1)] _ [.int R.1] rfl ?_
    exact ar_R M_M_spread rfl rfl rfl rfl (⟨by rw [h3], hF2, hS2⟩)
  · rw [if_neg h3]
    have hge : (0 : Int32) ≤ R.1 := by rcases hcs with z | z; exact absurd z h3; exact z
    refine ar_if M_M_spread rfl rfl (fun _ => ?_) (fun z => absurd hge (of_decide_eq_false z))
    refine ar_go M_M_spread 4 _ 85 _ [some (.ref 56), some (.int (nI m)), some (.int (t + R.1)), some (.int (nI 0)), some (.int (nI 0)), some (.int (nI 1)), some (.int R.1)] _ [] rfl ?_
    refine ar_go M_M_spread 1 _ 88 _ [some (.ref 56), some (.int (nI m)), some (.int (t + R.1)), some (.int (nI 0 + Int32.ofInt 1)), some (.int (nI 0)), some (.int (nI 1)), some (.int R.1)] _ [] rfl ?_
    rw [show nI 0 + Int32.ofInt 1 = nI (0 + 1) from nI_add 0 1]
    refine ar_go M_M_spread 1 _ 13 _ [some (.ref 56), some (.int (nI m)), some (.int (t + R.1)), some (.int (nI (0 + 1))), some (.int (nI 0)), some (.int (nI 1)), some (.int R.1)] _ [] rfl ?_
    exact c_M_sp_1 X d h hm1 hm hsc h2 R.2 (t + R.1) _ _ _ hS2 hF2
theorem c_M_spread (X : am_X) (d : Nat) (h : am_H) {S : Sg} (hS : isMS h S) (v : Int32) : ar Pg X (d + 1 + 1 + 1 + 1 + 1 + 1 + 1) n_M_spread 0 [some (.ref 56), some (.int v), none, none, none, none, none] [] h (fun rr h' => rr = some (.int (sprF oO S v).1) ∧ fr mLs h h' ∧ isMS h' (sprF oO S v).2) := by
  obtain ⟨fs, h56⟩ := hS.o
  refine ar_go M_M_spread 1 _ 1 _ [some (.ref 56), some (.int v), none, none, none, none, none] _ [.int v] rfl ?_
  refine ar_CS M_M_spread rfl rfl (Nat.le_of_ble_eq_true rfl) rfl rfl (Nat.le_of_ble_eq_true rfl) M_M_isMany (Nat.le_of_ble_eq_true rfl) (c_M_isMany X _ _ v) (fun r1 h1 hq => ?_)
  obtain ⟨rfl, rfl⟩ := hq
  refine ⟨rfl, ?_⟩
  show ar Pg _ _ _ 4 [some (.ref 56), some (.int v), none, none, none, none, none] [.int (bi (rch v))] _ _
  refine ar_if M_M_spread rfl rfl (fun hc1 => ?_) (fun hc1 => ?_)
  · have hc1 := bi_ne_t hc1
    have hc3 := hc1
    obtain ⟨m, hm1, hm, rfl⟩ := rch_ex hc1
    refine ar_go M_M_spread 4 _ 13 _ [some (.ref 56), some (.int (nI m)), some (.int (nI 0)), some (.int (nI 0)), none, none, none] _ [] rfl ?_
    rw [sprF, if_pos hc3, nI_clamp (show m < 2 ^ 31 by omega)]
    exact c_M_sp_0 X d _ hm1 hm (fun S1 h1 a b hS1 ha hb hab => stF_c X hS1 ha hb hab hm1 hm) _ S 0 _ _ _ hS (fr.rf _ _)
  · have hc1 := bi_ne_f hc1
    refine ar_go M_M_spread 1 _ 8 _ [some (.ref 56), some (.int v), none, none, none, none, none] _ [.int (-1)] rfl ?_
    exact ar_R M_M_spread rfl rfl rfl rfl (⟨by rw [sprF, if_neg (by rw [hc1]; decide)], fr.rf _ _, by rw [sprF, if_neg (by rw [hc1]; decide)]; exact hS⟩)
