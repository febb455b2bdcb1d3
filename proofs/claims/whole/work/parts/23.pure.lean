/-! Branches on natural numbers; booleans -/
theorem c2_eq_t {a b : Nat} (ha : a < 2 ^ 31) (hb : b < 2 ^ 31) (h : am_c2 .eq (nI a) (nI b) = true) : a = b := (nI_eq ha hb).mp (of_decide_eq_true h)
theorem c2_eq_f {a b : Nat} (ha : a < 2 ^ 31) (hb : b < 2 ^ 31) (h : am_c2 .eq (nI a) (nI b) = false) : ¬ a = b := fun z => of_decide_eq_false h ((nI_eq ha hb).mpr z)
theorem c2_ne_t {a b : Nat} (ha : a < 2 ^ 31) (hb : b < 2 ^ 31) (h : am_c2 .ne (nI a) (nI b) = true) : ¬ a = b := fun z => (of_decide_eq_true h : ¬ nI a = nI b) ((nI_eq ha hb).mpr z)
theorem c2_ne_f {a b : Nat} (ha : a < 2 ^ 31) (hb : b < 2 ^ 31) (h : am_c2 .ne (nI a) (nI b) = false) : a = b := (nI_eq ha hb).mp (Decidable.not_not.mp (of_decide_eq_false h : ¬ ¬ nI a = nI b))
theorem c2_lt_t {a b : Nat} (ha : a < 2 ^ 31) (hb : b < 2 ^ 31) (h : am_c2 .lt (nI a) (nI b) = true) : a < b := (nI_ltI ha hb).mp (of_decide_eq_true h)
theorem c2_lt_f {a b : Nat} (ha : a < 2 ^ 31) (hb : b < 2 ^ 31) (h : am_c2 .lt (nI a) (nI b) = false) : b ≤ a := by
  have z : ¬ (a < b) := fun z => of_decide_eq_false h ((nI_ltI ha hb).mpr z)
  omega
theorem c2_ge_t {a b : Nat} (ha : a < 2 ^ 31) (hb : b < 2 ^ 31) (h : am_c2 .ge (nI a) (nI b) = true) : b ≤ a := (nI_leI hb ha).mp (of_decide_eq_true h)
theorem c2_ge_f {a b : Nat} (ha : a < 2 ^ 31) (hb : b < 2 ^ 31) (h : am_c2 .ge (nI a) (nI b) = false) : a < b := by
  have z : ¬ (b ≤ a) := fun z => of_decide_eq_false h ((nI_leI hb ha).mpr z)
  omega
theorem c2_gt_t {a b : Nat} (ha : a < 2 ^ 31) (hb : b < 2 ^ 31) (h : am_c2 .gt (nI a) (nI b) = true) : b < a := (nI_ltI hb ha).mp (of_decide_eq_true h)
theorem c2_gt_f {a b : Nat} (ha : a < 2 ^ 31) (hb : b < 2 ^ 31) (h : am_c2 .gt (nI a) (nI b) = false) : a ≤ b := by
  have z : ¬ (b < a) := fun z => of_decide_eq_false h ((nI_ltI hb ha).mpr z)
  omega
theorem c2_le_t {a b : Nat} (ha : a < 2 ^ 31) (hb : b < 2 ^ 31) (h : am_c2 .le (nI a) (nI b) = true) : a ≤ b := (nI_leI ha hb).mp (of_decide_eq_true h)
theorem c2_le_f {a b : Nat} (ha : a < 2 ^ 31) (hb : b < 2 ^ 31) (h : am_c2 .le (nI a) (nI b) = false) : b < a := by
  have z : ¬ (a ≤ b) := fun z => of_decide_eq_false h ((nI_leI ha hb).mpr z)
  omega
def bi (b : Bool) : Int32 := if b = true then 1 else 0
theorem bi_01 (b : Bool) : bi b = 0 ∨ bi b = 1 := by cases b <;> decide
theorem bi_eq_t {b : Bool} (h : am_c2 .eq (bi b) 0 = true) : b = false := by cases b <;> first | rfl | exact absurd h (by decide)
theorem bi_eq_f {b : Bool} (h : am_c2 .eq (bi b) 0 = false) : b = true := by cases b <;> first | rfl | exact absurd h (by decide)
theorem bi_ne_t {b : Bool} (h : am_c2 .ne (bi b) 0 = true) : b = true := by cases b <;> first | rfl | exact absurd h (by decide)
theorem bi_ne_f {b : Bool} (h : am_c2 .ne (bi b) 0 = false) : b = false := by cases b <;> first | rfl | exact absurd h (by decide)

theorem c_F_times (X : am_X) (d : Nat) (h : am_H) {x y : Nat} (hx : x < 2147483648) (hy : y < 2147483648) : ar Pg X d n_F_times 0 [some (.long (lN x)), none, some (.long (lN y)), none] [] h (fun r h' => r = some (.long (lN (x * y % 2147483647))) ∧ h' = h) := by
  refine ar_go M_F_times 3 _ 3 _ [some (.long (lN x)), none, some (.long (lN y)), none] _ [.long (lN x * lN y)] rfl ?_
  refine ar_top (w := .long (lN (x * y))) (congrArg Value.long (lN_mul x y)) ?_
  refine ar_go M_F_times 1 _ 6 _ [some (.long (lN x)), none, some (.long (lN y)), none] _ [.long (lN 2147483647), .long (lN (x * y))] rfl ?_
  refine ar_lrem M_F_times rfl (by decide) ?_
  refine ar_top (w := .long (lN ((x * y) % 2147483647))) (congrArg Value.long (pk_lRem (by have := Nat.mul_lt_mul'' hx hy; omega) (by decide) (by decide))) ?_
  exact ar_R M_F_times rfl rfl rfl rfl (⟨rfl, rfl⟩)
theorem c_F_plus (X : am_X) (d : Nat) (h : am_H) {x y : Nat} (hx : x < 2147483648) (hy : y < 2147483648) : ar Pg X d n_F_plus 0 [some (.long (lN x)), none, some (.long (lN y)), none] [] h (fun r h' => r = some (.long (lN ((x + y) % 2147483647))) ∧ h' = h) := by
  refine ar_go M_F_plus 3 _ 3 _ [some (.long (lN x)), none, some (.long (lN y)), none] _ [.long (lN x + lN y)] rfl ?_
  refine ar_top (w := .long (lN (x + y))) (congrArg Value.long (lN_add x y)) ?_
  refine ar_go M_F_plus 1 _ 6 _ [some (.long (lN x)), none, some (.long (lN y)), none] _ [.long (lN 2147483647), .long (lN (x + y))] rfl ?_
  refine ar_lrem M_F_plus rfl (by decide) ?_
  refine ar_top (w := .long (lN ((x + y) % 2147483647))) (congrArg Value.long (pk_lRem (by omega) (by decide) (by decide))) ?_
  exact ar_R M_F_plus rfl rfl rfl rfl (⟨rfl, rfl⟩)
theorem c_F_minus (X : am_X) (d : Nat) (h : am_H) {x y : Nat} (hx : x < 2147483648) (hy : y < 2147483648) (hy2 : y ≤ x + 2147483647) : ar Pg X d n_F_minus 0 [some (.long (lN x)), none, some (.long (lN y)), none] [] h (fun r h' => r = some (.long (lN ((x + 2147483647 - y) % 2147483647))) ∧ h' = h) := by
  refine ar_go M_F_minus 3 _ 5 _ [some (.long (lN x)), none, some (.long (lN y)), none] _ [.long (lN x + lN 2147483647)] rfl ?_
  refine ar_top (w := .long (lN (x + 2147483647))) (congrArg Value.long (lN_add x 2147483647)) ?_
  refine ar_go M_F_minus 2 _ 7 _ [some (.long (lN x)), none, some (.long (lN y)), none] _ [.long (lN (x + 2147483647) - lN y)] rfl ?_
  refine ar_top (w := .long (lN ((x + 2147483647) - y))) (congrArg Value.long (lN_sub (by omega))) ?_
  refine ar_go M_F_minus 1 _ 10 _ [some (.long (lN x)), none, some (.long (lN y)), none] _ [.long (lN 2147483647), .long (lN ((x + 2147483647) - y))] rfl ?_
  refine ar_lrem M_F_minus rfl (by decide) ?_
  refine ar_top (w := .long (lN (((x + 2147483647) - y) % 2147483647))) (congrArg Value.long (pk_lRem (by omega) (by decide) (by decide))) ?_
  exact ar_R M_F_minus rfl rfl rfl rfl (⟨rfl, rfl⟩)
-- the power by squares, as both sides reckon it
def mf_pw : Nat → Nat → Nat → Nat → Nat
  | 0, a, _, _ => a
  | n + 1, a, q, e => mf_pw n (if e % 2 = 1 then a * q % 2147483647 else a) (q * q % 2147483647) (e / 2)
theorem mf_pw_lt : ∀ (n a q e : Nat), a < 2147483647 → mf_pw n a q e < 2147483647
  | 0, a, q, e, h => h
  | n + 1, a, q, e, h => by
    rw [mf_pw]
    apply mf_pw_lt
    split
    · exact Nat.mod_lt _ (by decide)
    · exact h
def mf_iv (x : Nat) : Nat := mf_pw 31 1 x 2147483645
theorem mf_iv_lt (x : Nat) : mf_iv x < 2147483647 := mf_pw_lt _ _ _ _ (by decide)
def mf_e (k : Nat) : Nat := 2147483645 / 2 ^ k
theorem mf_e_and : ∀ k, k < 31 → lN (mf_e k) &&& lN 1 = lN (mf_e k % 2) := by decide +kernel
theorem mf_e_shr : ∀ k, k < 31 → lN (mf_e k) >>> ((nI 1).toInt64 &&& 63) = lN (mf_e (k + 1)) := by decide +kernel
theorem mf_e_pos : ∀ k, k < 31 → lg_cmp (lN (mf_e k)) (lN 0) = 1 := by decide +kernel
theorem mf_e_half (k : Nat) : mf_e k / 2 = mf_e (k + 1) := by
  unfold mf_e
  rw [Nat.div_div_eq_div_mul, Nat.pow_succ]
theorem mf_e_cmp : ∀ k, k < 31 → lg_cmp (lN (mf_e k % 2)) (lN 1) = if mf_e k % 2 = 1 then 0 else -1 := by decide +kernel
theorem c_F_inv_loop (X : am_X) (d : Nat) (h : am_H) (x : Nat) : ∀ (n k a q : Nat), n + k = 31 → a < 2147483648 → q < 2147483648 → ar Pg X d n_F_inverse 10 [some (.long (lN x)), none, some (.long (lN a)), none, some (.long (lN q)), none, some (.long (lN (mf_e k))), none] [] h (fun r h' => r = some (.long (lN (mf_pw n a q (mf_e k)))) ∧ h' = h) := by
  intro n
  induction n with
  | zero =>
    intro k a q hk ha hq
    have hk : k = 31 := by omega
    subst hk
    refine ar_go M_F_inverse 3 _ 14 _ [some (.long (lN x)), none, some (.long (lN a)), none, some (.long (lN q)), none, some (.long (lN (mf_e 31))), none] _ [.int (lg_cmp (lN (mf_e 31)) (lN 0))] rfl ?_
    refine ar_if M_F_inverse rfl rfl (fun _ => ?_) (fun z => absurd z (by decide))
    refine ar_go M_F_inverse 1 _ 56 _ [some (.long (lN x)), none, some (.long (lN a)), none, some (.long (lN q)), none, some (.long (lN (mf_e 31))), none] _ [.long (lN a)] rfl ?_
    exact ar_R M_F_inverse rfl rfl rfl rfl ⟨rfl, rfl⟩
  | succ n ih =>
    intro k a q hk ha hq
    refine ar_go M_F_inverse 3 _ 14 _ [some (.long (lN x)), none, some (.long (lN a)), none, some (.long (lN q)), none, some (.long (lN (mf_e k))), none] _ [.int (lg_cmp (lN (mf_e k)) (lN 0))] rfl ?_
    refine ar_top (w := .int 1) (congrArg Value.int (mf_e_pos k (by omega))) ?_
    refine ar_if M_F_inverse rfl rfl (fun z => absurd z (by decide)) (fun _ => ?_)
    refine ar_go M_F_inverse 3 _ 21 _ [some (.long (lN x)), none, some (.long (lN a)), none, some (.long (lN q)), none, some (.long (lN (mf_e k))), none] _ [.long (lN (mf_e k) &&& lN 1)] rfl ?_
    refine ar_top (w := .long (lN (mf_e k % 2))) (congrArg Value.long (mf_e_and k (by omega))) ?_
    refine ar_go M_F_inverse 2 _ 23 _ [some (.long (lN x)), none, some (.long (lN a)), none, some (.long (lN q)), none, some (.long (lN (mf_e k))), none] _ [.int (lg_cmp (lN (mf_e k % 2)) (lN 1))] rfl ?_
    refine ar_top (w := .int (if mf_e k % 2 = 1 then 0 else -1)) (congrArg Value.int (mf_e_cmp k (by omega))) ?_
    by_cases ho : mf_e k % 2 = 1
    · rw [if_pos ho]
      refine ar_if M_F_inverse rfl rfl (fun z => absurd z (by decide)) (fun _ => ?_)
      refine ar_go M_F_inverse 3 _ 30 _ [some (.long (lN x)), none, some (.long (lN a)), none, some (.long (lN q)), none, some (.long (lN (mf_e k))), none] _ [.long (lN a * lN q)] rfl ?_
      refine ar_top (w := .long (lN (a * q))) (congrArg Value.long (lN_mul a q)) ?_
      refine ar_go M_F_inverse 1 _ 33 _ [some (.long (lN x)), none, some (.long (lN a)), none, some (.long (lN q)), none, some (.long (lN (mf_e k))), none] _ [.long (lN 2147483647), .long (lN (a * q))] rfl ?_
      refine ar_lrem M_F_inverse rfl (by decide) ?_
      refine ar_top (w := .long (lN ((a * q) % 2147483647))) (congrArg Value.long (pk_lRem (by have := Nat.mul_lt_mul'' ha hq; omega) (by decide) (by decide))) ?_
      refine ar_go M_F_inverse 4 _ 40 _ [some (.long (lN x)), none, some (.long (lN ((a * q) % 2147483647))), none, some (.long (lN q)), none, some (.long (lN (mf_e k))), none] _ [.long (lN q * lN q)] rfl ?_
      refine ar_top (w := .long (lN (q * q))) (congrArg Value.long (lN_mul q q)) ?_
      refine ar_go M_F_inverse 1 _ 43 _ [some (.long (lN x)), none, some (.long (lN ((a * q) % 2147483647))), none, some (.long (lN q)), none, some (.long (lN (mf_e k))), none] _ [.long (lN 2147483647), .long (lN (q * q))] rfl ?_
      refine ar_lrem M_F_inverse rfl (by decide) ?_
      refine ar_top (w := .long (lN ((q * q) % 2147483647))) (congrArg Value.long (pk_lRem (by have := Nat.mul_lt_mul'' hq hq; omega) (by decide) (by decide))) ?_
      refine ar_go M_F_inverse 4 _ 50 _ [some (.long (lN x)), none, some (.long (lN ((a * q) % 2147483647))), none, some (.long (lN ((q * q) % 2147483647))), none, some (.long (lN (mf_e k))), none] _ [.long ((lN (mf_e k)) >>> ((nI 1).toInt64 &&& 63))] rfl ?_
      refine ar_top (w := .long (lN (mf_e (k + 1)))) (congrArg Value.long (mf_e_shr k (by omega))) ?_
      refine ar_go M_F_inverse 2 _ 10 _ [some (.long (lN x)), none, some (.long (lN ((a * q) % 2147483647))), none, some (.long (lN ((q * q) % 2147483647))), none, some (.long (lN (mf_e (k + 1)))), none] _ [] rfl ?_
      have ih' := ih (k + 1) (a * q % 2147483647) (q * q % 2147483647) (by omega) (Nat.lt_of_lt_of_le (Nat.mod_lt _ (by decide)) (by decide)) (Nat.lt_of_lt_of_le (Nat.mod_lt _ (by decide)) (by decide))
      rw [mf_pw, if_pos ho, mf_e_half]
      exact ih'
    · rw [if_neg ho]
      refine ar_if M_F_inverse rfl rfl (fun _ => ?_) (fun z => absurd z (by decide))
      refine ar_go M_F_inverse 3 _ 40 _ [some (.long (lN x)), none, some (.long (lN a)), none, some (.long (lN q)), none, some (.long (lN (mf_e k))), none] _ [.long (lN q * lN q)] rfl ?_
      refine ar_top (w := .long (lN (q * q))) (congrArg Value.long (lN_mul q q)) ?_
      refine ar_go M_F_inverse 1 _ 43 _ [some (.long (lN x)), none, some (.long (lN a)), none, some (.long (lN q)), none, some (.long (lN (mf_e k))), none] _ [.long (lN 2147483647), .long (lN (q * q))] rfl ?_
      refine ar_lrem M_F_inverse rfl (by decide) ?_
      refine ar_top (w := .long (lN ((q * q) % 2147483647))) (congrArg Value.long (pk_lRem (by have := Nat.mul_lt_mul'' hq hq; omega) (by decide) (by decide))) ?_
      refine ar_go M_F_inverse 4 _ 50 _ [some (.long (lN x)), none, some (.long (lN a)), none, some (.long (lN ((q * q) % 2147483647))), none, some (.long (lN (mf_e k))), none] _ [.long ((lN (mf_e k)) >>> ((nI 1).toInt64 &&& 63))] rfl ?_
      refine ar_top (w := .long (lN (mf_e (k + 1)))) (congrArg Value.long (mf_e_shr k (by omega))) ?_
      refine ar_go M_F_inverse 2 _ 10 _ [some (.long (lN x)), none, some (.long (lN a)), none, some (.long (lN ((q * q) % 2147483647))), none, some (.long (lN (mf_e (k + 1)))), none] _ [] rfl ?_
      have ih' := ih (k + 1) a (q * q % 2147483647) (by omega) ha (Nat.lt_of_lt_of_le (Nat.mod_lt _ (by decide)) (by decide))
      rw [mf_pw, if_neg ho, mf_e_half]
      exact ih'
theorem c_F_inverse (X : am_X) (d : Nat) (h : am_H) {x : Nat} (hx : x < 2147483648) : ar Pg X d n_F_inverse 0 [some (.long (lN x)), none, none, none, none, none, none, none] [] h (fun r h' => r = some (.long (lN (mf_iv x))) ∧ h' = h) := by
  refine ar_go M_F_inverse 6 _ 10 _ [some (.long (lN x)), none, some (.long (lN 1)), none, some (.long (lN x)), none, some (.long (lN 2147483645)), none] _ [] rfl ?_
  exact c_F_inv_loop X d h x 31 0 1 x rfl (by decide) hx
