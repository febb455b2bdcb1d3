/-! The field of 2147483647 elements -/
-- no divisor in lo .. lo + 2^k - 1, by halves
def mf_nd (n : Nat) : Nat → Nat → Bool
  | 0, lo => decide (n % lo ≠ 0)
  | k + 1, lo => mf_nd n k lo && mf_nd n k (lo + 2 ^ k)
theorem mf_nd_ok {n : Nat} : ∀ (k lo d : Nat), mf_nd n k lo = true → lo ≤ d → d < lo + 2 ^ k → n % d ≠ 0
  | 0, lo, d, h, h1, h2 => by
    have : d = lo := by simp at h2; omega
    subst this
    simpa [mf_nd] using h
  | k + 1, lo, d, h, h1, h2 => by
    simp only [mf_nd, Bool.and_eq_true] at h
    by_cases hd : d < lo + 2 ^ k
    · exact mf_nd_ok k lo d h.1 h1 hd
    · exact mf_nd_ok k (lo + 2 ^ k) d h.2 (by omega) (by rw [Nat.pow_succ] at h2; omega)
set_option maxRecDepth 100000 in
theorem mf_nd_p : mf_nd 2147483647 16 2 = true := by decide +kernel
theorem mf_prime {d : Nat} (h : d ∣ 2147483647) : d = 1 ∨ d = 2147483647 := by
  obtain ⟨e, he⟩ := h
  have key : ∀ d e : Nat, 2147483647 = d * e → d ≤ e → d = 1 := by
    intro d e he hle
    have h0 : d ≠ 0 := by
      intro z
      subst z
      rw [Nat.zero_mul] at he
      exact absurd he (by decide)
    have hlt : d < 65538 := by
      apply Nat.lt_of_not_le
      intro z
      have : 65538 * 65538 ≤ d * e := Nat.mul_le_mul z (Nat.le_trans z hle)
      rw [← he] at this
      exact absurd this (by decide)
    by_cases h1 : d = 1
    · exact h1
    · exfalso
      refine mf_nd_ok 16 2 d mf_nd_p (by omega) (by omega) ?_
      rw [he]
      exact Nat.mul_mod_right d e
  rcases Nat.le_total d e with hle | hle
  · exact Or.inl (key d e he hle)
  · have := key e d (by rw [he, Nat.mul_comm]) hle
    subst this
    exact Or.inr (by rw [he, Nat.mul_one])
def prm (p : Nat) : Prop := 1 < p ∧ ∀ a b : Nat, p ∣ a * b → p ∣ a ∨ p ∣ b
theorem mf_prm : prm 2147483647 := by
  refine ⟨by decide, ?_⟩
  intro a b h
  rcases mf_prime (Nat.gcd_dvd_left 2147483647 a) with hg | hg
  · exact Or.inr (Nat.Coprime.dvd_of_dvd_mul_left (show Nat.Coprime 2147483647 a from hg) h)
  · left
    have := Nat.gcd_dvd_right 2147483647 a
    rw [hg] at this
    exact this
-- binomials
def mf_ch : Nat → Nat → Nat
  | _, 0 => 1
  | 0, _ + 1 => 0
  | n + 1, k + 1 => mf_ch n k + mf_ch n (k + 1)
theorem mf_ch_0 (n : Nat) : mf_ch n 0 = 1 := by cases n <;> rfl
theorem mf_ch_z (k : Nat) : mf_ch 0 (k + 1) = 0 := rfl
theorem mf_ch_s (n k : Nat) : mf_ch (n + 1) (k + 1) = mf_ch n k + mf_ch n (k + 1) := rfl
theorem mf_ch_big : ∀ (n k : Nat), n < k → mf_ch n k = 0
  | _, 0, h => absurd h (Nat.not_lt_zero _)
  | 0, k + 1, _ => rfl
  | n + 1, k + 1, h => by rw [mf_ch_s, mf_ch_big n k (by omega), mf_ch_big n (k + 1) (by omega)]
theorem mf_ch_self : ∀ n : Nat, mf_ch n n = 1
  | 0 => rfl
  | n + 1 => by rw [mf_ch_s, mf_ch_self n, mf_ch_big n (n + 1) (by omega)]
theorem mf_ch_mul : ∀ (n k : Nat), (k + 1) * mf_ch (n + 1) (k + 1) = (n + 1) * mf_ch n k
  | 0, 0 => rfl
  | 0, k + 1 => by
    rw [mf_ch_big 1 (k + 2) (by omega), mf_ch_big 0 (k + 1) (by omega), Nat.mul_zero, Nat.mul_zero]
  | n + 1, 0 => by
    have ih := mf_ch_mul n 0
    rw [mf_ch_s, mf_ch_0]
    rw [mf_ch_0] at ih
    omega
  | n + 1, k + 1 => by
    have ih1 := mf_ch_mul n k
    have ih2 := mf_ch_mul n (k + 1)
    have d1 := mf_ch_s (n + 1) (k + 1)
    have d2 := mf_ch_s n k
    rw [d1, Nat.mul_add]
    have e1 : (k + 1 + 1) * mf_ch (n + 1) (k + 1) = (n + 1) * mf_ch n k + mf_ch (n + 1) (k + 1) := by rw [Nat.succ_mul, ih1]
    rw [e1, ih2]
    rw [show (n + 1 + 1) * mf_ch (n + 1) (k + 1) = (n + 1) * mf_ch (n + 1) (k + 1) + mf_ch (n + 1) (k + 1) from Nat.succ_mul _ _]
    have e3 : (n + 1) * mf_ch (n + 1) (k + 1) = (n + 1) * mf_ch n k + (n + 1) * mf_ch n (k + 1) := by rw [d2, Nat.mul_add]
    omega
theorem mf_ch_p {p k : Nat} (hp : prm p) (h0 : 0 < k) (hk : k < p) : p ∣ mf_ch p k := by
  obtain ⟨k, rfl⟩ : ∃ q, k = q + 1 := ⟨k - 1, by omega⟩
  obtain ⟨n, rfl⟩ : ∃ n, p = n + 1 := ⟨p - 1, by omega⟩
  have h := mf_ch_mul n k
  have hd : (n + 1) ∣ (k + 1) * mf_ch (n + 1) (k + 1) := by rw [h]; exact Nat.dvd_mul_right _ _
  rcases hp.2 _ _ hd with z | z
  · exact absurd (Nat.le_of_dvd (by omega) z) (by omega)
  · exact z
-- the sum of ch n k * x^k, k < m
def mf_sm (n x : Nat) : Nat → Nat
  | 0 => 0
  | m + 1 => mf_sm n x m + mf_ch n m * x ^ m
theorem mf_sm_s (n x m : Nat) : mf_sm n x (m + 1) = mf_sm n x m + mf_ch n m * x ^ m := rfl
theorem mf_sm_step (n x : Nat) : ∀ m : Nat, mf_sm (n + 1) x (m + 1) = mf_sm n x (m + 1) + x * mf_sm n x m
  | 0 => by
    simp [mf_sm, mf_ch_0]
  | m + 1 => by
    have ih := mf_sm_step n x m
    rw [mf_sm_s (n + 1) x (m + 1), ih, mf_sm_s n x (m + 1), mf_ch_s, Nat.add_mul]
    have e1 : x * mf_sm n x (m + 1) = x * mf_sm n x m + x * (mf_ch n m * x ^ m) := by rw [mf_sm_s, Nat.mul_add]
    have e2 : x * (mf_ch n m * x ^ m) = mf_ch n m * x ^ (m + 1) := by rw [Nat.pow_succ, Nat.mul_left_comm, Nat.mul_comm x]
    omega
theorem mf_binom (x : Nat) : ∀ n : Nat, (x + 1) ^ n = mf_sm n x (n + 1)
  | 0 => by simp [mf_sm, mf_ch]
  | n + 1 => by
    have ih := mf_binom x n
    rw [Nat.pow_succ, ih, mf_sm_step n x (n + 1), mf_sm_s n x (n + 1), mf_ch_big n (n + 1) (by omega), Nat.zero_mul, Nat.add_zero, Nat.mul_add, Nat.mul_one, Nat.mul_comm]
    omega
theorem mf_sm_p {p : Nat} (hp : prm p) (x : Nat) : ∀ m : Nat, m < p → mf_sm p x (m + 1) % p = 1 % p
  | 0, _ => by simp [mf_sm, mf_ch_0]
  | m + 1, h => by
    obtain ⟨q, hq⟩ := mf_ch_p hp (k := m + 1) (by omega) h
    rw [mf_sm_s, hq, Nat.mul_assoc, Nat.add_mul_mod_self_left, mf_sm_p hp x m (by omega)]
theorem mf_fermat {p : Nat} (hp : prm p) : ∀ x : Nat, x ^ p % p = x % p
  | 0 => by
    rw [Nat.zero_pow (by have := hp.1; omega)]
  | x + 1 => by
    have ih := mf_fermat hp x
    obtain ⟨n, hn⟩ : ∃ n, p = n + 1 := ⟨p - 1, by have := hp.1; omega⟩
    have h1 := mf_sm_p hp x n (by omega)
    rw [← hn] at h1
    rw [mf_binom x p, mf_sm_s, mf_ch_self, Nat.one_mul, Nat.add_mod, h1, ih, ← Nat.add_mod, Nat.add_comm]
theorem mf_cancel {p x : Nat} (hp : prm p) (h0 : x % p ≠ 0) {a b : Nat} (he : x * a % p = x * b % p) : a % p = b % p := by
  have key : ∀ a b : Nat, a ≤ b → x * a % p = x * b % p → a % p = b % p := by
    intro a b hab he
    have hd : p ∣ x * (b - a) := by
      rw [Nat.mul_sub]
      exact Nat.dvd_of_mod_eq_zero (Nat.sub_mod_eq_zero_of_mod_eq he.symm)
    rcases hp.2 _ _ hd with z | z
    · exact absurd (Nat.mod_eq_zero_of_dvd z) h0
    · obtain ⟨q, hq⟩ := z
      have hb : b = a + p * q := by omega
      rw [hb, Nat.add_mul_mod_self_left]
  rcases Nat.le_total a b with hle | hle
  · exact key a b hle he
  · exact (key b a hle he.symm).symm
/-- x times its power of p - 2 is 1 -/
theorem mf_inv {p e x : Nat} (hp : prm p) (he : e + 2 = p) (h0 : x % p ≠ 0) : x * x ^ e % p = 1 := by
  have h := mf_fermat hp x
  have e1 : x ^ p = x * (x * x ^ e) := by
    rw [← he, Nat.pow_succ, Nat.pow_succ, Nat.mul_comm (x ^ e * x) x, Nat.mul_comm (x ^ e) x]
  have hx : x * (x * x ^ e) % p = x * 1 % p := by rw [← e1, h, Nat.mul_one]
  have := mf_cancel hp h0 hx
  rw [this]
  exact Nat.mod_eq_of_lt hp.1
theorem mf_pw_at : ∀ (n a q e : Nat), e < 2 ^ n → mf_pw n a q e % 2147483647 = a * q ^ e % 2147483647
  | 0, a, q, e, he => by
    have : e = 0 := by simp at he; omega
    subst this
    simp [mf_pw]
  | n + 1, a, q, e, he => by
    have ih := mf_pw_at n (if e % 2 = 1 then a * q % 2147483647 else a) (q * q % 2147483647) (e / 2) (by rw [Nat.pow_succ] at he; omega)
    rw [mf_pw, ih]
    have hq : ∀ z : Nat, z * (q * q % 2147483647) ^ (e / 2) % 2147483647 = z * (q * q) ^ (e / 2) % 2147483647 := by
      intro z
      rw [Nat.mul_mod z, ← Nat.pow_mod, ← Nat.mul_mod]
    rw [hq]
    have hs : (q * q) ^ (e / 2) = q ^ (2 * (e / 2)) := by
      rw [Nat.pow_mul, Nat.pow_two]
    rw [hs]
    by_cases h1 : e % 2 = 1
    · rw [if_pos h1]
      have h2 : q ^ e = q * q ^ (2 * (e / 2)) := by
        rw [Nat.mul_comm, ← Nat.pow_succ]
        congr 1
        omega
      rw [h2, ← Nat.mul_assoc, Nat.mod_mul_mod]
    · rw [if_neg h1]
      have h2 : 2 * (e / 2) = e := by omega
      rw [h2]
theorem mf_iv_at (x : Nat) : mf_iv x % 2147483647 = x ^ 2147483645 % 2147483647 := by
  have h := mf_pw_at 31 1 x 2147483645 (by decide)
  rw [Nat.one_mul] at h
  exact h
theorem mf_iv_1 {x : Nat} (h0 : x % 2147483647 ≠ 0) : mf_iv x * x % 2147483647 = 1 := by
  have h := mf_inv (p := 2147483647) (e := 2147483645) mf_prm rfl h0
  have h2 := mf_iv_at x
  generalize x ^ 2147483645 = y at h h2
  rw [Nat.mul_mod, h2, ← Nat.mul_mod, Nat.mul_comm]
  exact h
/-! The numbers mod 2147483647 -/
abbrev mF : Type := Fin 2147483647
def tf (n : Nat) : mF := ⟨n % 2147483647, Nat.mod_lt _ (by decide)⟩
theorem tf_val (n : Nat) : (tf n).val = n % 2147483647 := rfl
theorem tf_0 : tf 0 = 0 := Fin.ext (by decide)
theorem tf_1 : tf 1 = 1 := Fin.ext (by decide)
theorem tf_add (a b : Nat) : tf (a + b) = tf a + tf b := by
  apply Fin.ext
  rw [Fin.val_add, tf_val, tf_val, tf_val]
  exact Nat.add_mod a b _
theorem tf_mul (a b : Nat) : tf (a * b) = tf a * tf b := by
  apply Fin.ext
  rw [Fin.val_mul, tf_val, tf_val, tf_val]
  exact Nat.mul_mod a b _
theorem tf_mod (a : Nat) : tf (a % 2147483647) = tf a := by
  apply Fin.ext
  rw [tf_val, tf_val]
  exact Nat.mod_mod a _
theorem tf_p : tf 2147483647 = 0 := Fin.ext (by decide)
theorem tf_sub {a b : Nat} (h : b ≤ a + 2147483647) : tf (a + 2147483647 - b) = tf a - tf b := by
  have h1 : tf (a + 2147483647 - b + b) = tf a + tf 2147483647 := by
    rw [Nat.sub_add_cancel h, tf_add]
  rw [tf_add, tf_p] at h1
  grind
theorem tf_inj {a b : Nat} (ha : a < 2147483647) (hb : b < 2147483647) (h : tf a = tf b) : a = b := by
  have := congrArg Fin.val h
  rw [tf_val, tf_val, Nat.mod_eq_of_lt ha, Nat.mod_eq_of_lt hb] at this
  exact this
theorem tf_eq0 {a : Nat} (ha : a < 2147483647) : tf a = 0 ↔ a = 0 := by
  constructor
  · intro h
    rw [← tf_0] at h
    exact tf_inj ha (by decide) h
  · intro h
    rw [h, tf_0]
theorem tf_eq {a b : Nat} : tf a = tf b ↔ a % 2147483647 = b % 2147483647 := by
  constructor
  · intro h
    have := congrArg Fin.val h
    rw [tf_val, tf_val] at this
    exact this
  · intro h
    apply Fin.ext
    rw [tf_val, tf_val]
    exact h
theorem tf_of (x : mF) : tf x.val = x := Fin.ext (by rw [tf_val]; exact Nat.mod_eq_of_lt x.isLt)
theorem tf_iv {x : Nat} (hx : x < 2147483647) (h0 : x ≠ 0) : tf (mf_iv x) * tf x = 1 := by
  rw [← tf_mul, ← tf_1]
  apply tf_eq.mpr
  rw [mf_iv_1 (by rw [Nat.mod_eq_of_lt hx]; exact h0)]
theorem tf_min (a m b : Nat) : tf ((a + 2147483647 - m * b % 2147483647) % 2147483647) = tf a - tf m * tf b := by
  have h : m * b % 2147483647 < 2147483647 := Nat.mod_lt _ (by decide)
  rw [tf_mod, tf_sub (by omega), tf_mod, tf_mul]
theorem mF_mul0 {a b : mF} (h : a * b = 0) : a = 0 ∨ b = 0 := by
  have h1 : a.val * b.val % 2147483647 = 0 := by
    have := congrArg Fin.val h
    rw [Fin.val_mul] at this
    exact this
  rcases mf_prm.2 _ _ (Nat.dvd_of_mod_eq_zero h1) with z | z
  · left
    apply Fin.ext
    exact Nat.eq_zero_of_dvd_of_lt z a.isLt
  · right
    apply Fin.ext
    exact Nat.eq_zero_of_dvd_of_lt z b.isLt
theorem mF_10 : ¬ (1 : mF) = 0 := by
  intro h
  have := congrArg Fin.val h
  exact absurd this (by decide)
