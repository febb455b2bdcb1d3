/-! The reference's sieve: what it spans -/
def sg (F : Nat → mF) : Nat → mF
  | 0 => 0
  | n + 1 => sg F n + F n
theorem sg_0 (F : Nat → mF) : sg F 0 = 0 := rfl
theorem sg_s (F : Nat → mF) (n : Nat) : sg F (n + 1) = sg F n + F n := rfl
theorem sg_cg {F G : Nat → mF} : ∀ n, (∀ i, i < n → F i = G i) → sg F n = sg G n
  | 0, _ => rfl
  | n + 1, h => by rw [sg_s, sg_s, sg_cg n (fun i hi => h i (by omega)), h n (by omega)]
theorem sg_z {F : Nat → mF} : ∀ n, (∀ i, i < n → F i = 0) → sg F n = 0
  | 0, _ => rfl
  | n + 1, h => by
    rw [sg_s, sg_z n (fun i hi => h i (by omega)), h n (by omega)]
    grind
theorem sg_lin (F G : Nat → mF) (m : mF) : ∀ n, sg (fun i => F i - m * G i) n = sg F n - m * sg G n
  | 0 => by
    rw [sg_0, sg_0, sg_0]
    grind
  | n + 1 => by
    rw [sg_s, sg_s, sg_s, sg_lin F G m n]
    grind
theorem sg_mul (F : Nat → mF) (m : mF) : ∀ n, sg (fun i => m * F i) n = m * sg F n
  | 0 => by
    rw [sg_0, sg_0]
    grind
  | n + 1 => by
    rw [sg_s, sg_s, sg_mul F m n]
    grind
theorem sg_one {F : Nat → mF} {j : Nat} : ∀ n, j < n → (∀ i, i < n → i ≠ j → F i = 0) → sg F n = F j
  | 0, h, _ => absurd h (Nat.not_lt_zero j)
  | n + 1, h, hz => by
    rw [sg_s]
    by_cases hj : j = n
    · subst hj
      rw [sg_z j (fun i hi => hz i (by omega) (by omega))]
      grind
    · rw [sg_one n (by omega) (fun i hi hne => hz i (by omega) hne), hz n (by omega) (by omega)]
      grind
theorem sg_upd (F : Nat → mF) (y : mF) (p : Nat) : ∀ n, p < n → sg (fun i => if i = p then y else F i) n = sg F n - F p + y
  | 0, h => absurd h (Nat.not_lt_zero p)
  | n + 1, h => by
    rw [sg_s, sg_s]
    by_cases hp : p = n
    · subst hp
      rw [sg_cg (G := F) p (fun i hi => if_neg (by omega)), if_pos rfl]
      grind
    · rw [sg_upd F y p n (by omega), if_neg (by omega)]
      grind
/-- all but p, the last one in its place -/
def sgm (p k r : Nat) : Nat := if r = p then k - 1 else r
theorem sgm_ok {p k r : Nat} (hp : p < k) (hr : r < k - 1) : sgm p k r < k ∧ sgm p k r ≠ p := by
  rw [sgm]
  by_cases h : r = p
  · rw [if_pos h]
    omega
  · rw [if_neg h]
    omega
theorem sg_sgm (F : Nat → mF) {p k : Nat} (hp : p < k) : sg (fun r => F (sgm p k r)) (k - 1) = sg F k - F p := by
  obtain ⟨n, rfl⟩ : ∃ n, k = n + 1 := ⟨k - 1, by omega⟩
  rw [show n + 1 - 1 = n by omega, sg_s]
  by_cases h : p = n
  · subst h
    rw [sg_cg (G := F) p (fun r hr => by rw [sgm, if_neg (by omega)])]
    grind
  · rw [sg_cg (G := fun i => if i = p then F n else F i) n (fun r hr => by
      rw [sgm]
      by_cases hr2 : r = p
      · rw [if_pos hr2, if_pos hr2, show n + 1 - 1 = n by omega]
      · rw [if_neg hr2, if_neg hr2]), sg_upd F (F n) p n (by omega)]
    grind
/-! values of a vector of factors -/
def he (v : Nat → mF) (x : mF) : Nat → Nat → mF
  | 0, _ => 0
  | n + 1, j => he v x n (j + 1) * x + v j
theorem he_0 (v : Nat → mF) (x : mF) (j : Nat) : he v x 0 j = 0 := rfl
theorem he_s (v : Nat → mF) (x : mF) (n j : Nat) : he v x (n + 1) j = he v x n (j + 1) * x + v j := rfl
theorem he_cg {v w : Nat → mF} (x : mF) : ∀ n j, (∀ i, j ≤ i → i < j + n → v i = w i) → he v x n j = he w x n j
  | 0, _, _ => rfl
  | n + 1, j, h => by rw [he_s, he_s, he_cg x n (j + 1) (fun i h1 h2 => h i (by omega) (by omega)), h j (by omega) (by omega)]
theorem he_lin (v w : Nat → mF) (m x : mF) : ∀ n j, he (fun i => v i - m * w i) x n j = he v x n j - m * he w x n j
  | 0, _ => by
    rw [he_0, he_0, he_0]
    grind
  | n + 1, j => by
    rw [he_s, he_s, he_s, he_lin v w m x n (j + 1)]
    grind
theorem he_hv (A : Nat → Nat) (k : Nat) (x : mF) : ∀ n j, hv (fun i => A (k + i)) x n j = he (fun i => tf (A i)) x n (k + j)
  | 0, _ => rfl
  | n + 1, j => by rw [hv_s, he_s, he_hv A k x n (j + 1), show k + (j + 1) = k + j + 1 by omega]
theorem he_sg (c : Nat → mF) (R : Nat → Nat → mF) (x : mF) (k : Nat) : ∀ n j, he (fun i => sg (fun r => c r * R r i) k) x n j = sg (fun r => c r * he (R r) x n j) k
  | 0, j => by
    rw [he_0, sg_z k (fun r _ => by rw [he_0]; grind)]
  | n + 1, j => by
    rw [he_s, he_sg c R x k n (j + 1)]
    have : ∀ m, sg (fun r => c r * he (R r) x (n + 1) j) m = sg (fun r => c r * he (R r) x n (j + 1)) m * x + sg (fun r => c r * R r j) m := by
      intro m
      induction m with
      | zero =>
        rw [sg_0, sg_0, sg_0]
        grind
      | succ m ih =>
        rw [sg_s, sg_s, sg_s, ih, he_s]
        grind
    rw [this]
/-- the value of a pair at a point: 0 where it fits -/
def fi (v : Nat → mF) (u l : Nat) (x a b : mF) : mF := he v x (u + 1) 0 * b - he v x (l + 1) 17 * a
theorem fi_lin (v w : Nat → mF) (m : mF) (u l : Nat) (x a b : mF) : fi (fun i => v i - m * w i) u l x a b = fi v u l x a b - m * fi w u l x a b := by
  rw [fi, fi, fi, he_lin, he_lin]
  grind
theorem fi_cg {v w : Nat → mF} {u l : Nat} (hu : u ≤ 16) (hl : l ≤ 16) (x a b : mF) (h : ∀ i, i < 34 → v i = w i) : fi v u l x a b = fi w u l x a b := by
  rw [fi, fi, he_cg x (u + 1) 0 (fun i _ h2 => h i (by omega)), he_cg x (l + 1) 17 (fun i _ h2 => h i (by omega))]
theorem fi_sg (c : Nat → mF) (R : Nat → Nat → mF) (k u l : Nat) (x a b : mF) : fi (fun i => sg (fun r => c r * R r i) k) u l x a b = sg (fun r => c r * fi (R r) u l x a b) k := by
  rw [fi, he_sg, he_sg]
  have : ∀ m, sg (fun r => c r * fi (R r) u l x a b) m = sg (fun r => c r * he (R r) x (u + 1) 0) m * b - sg (fun r => c r * he (R r) x (l + 1) 17) m * a := by
    intro m
    induction m with
    | zero =>
      rw [sg_0, sg_0, sg_0]
      grind
    | succ m ih =>
      rw [sg_s, sg_s, sg_s, ih, fi]
      grind
  rw [this]
def row (A : Nat → Nat) (r : Nat) : Nat → mF := fun i => tf (A (34 * r + i))
def spn (R : Nat → Nat → mF) (k : Nat) (v : Nat → mF) : Prop := ∃ c : Nat → mF, ∀ i, i < 34 → v i = sg (fun r => c r * R r i) k
theorem siV_fi (A : Nat → Nat) (u l x a b r : Nat) : tf (siV A u l x a b r) = fi (row A r) u l (tf x) (tf a) (tf b) := by
  have h : ∀ y z : Nat, tf ((y % 2147483647 + 2147483647 - z % 2147483647) % 2147483647) = tf y - tf z := by
    intro y z
    have hz : z % 2147483647 < 2147483647 := Nat.mod_lt _ (by decide)
    rw [tf_mod, tf_sub (by omega), tf_mod, tf_mod]
  rw [siV, h, tf_mul, tf_mul, hv_S, hv_S, fi]
  have e1 := he_hv A (34 * r) (tf x) (u + 1) 0
  have e2 := he_hv A (34 * r + 17) (tf x) (l + 1) 0
  have e3 : ∀ n j k, he (fun i => tf (A i)) (tf x) n (k + j) = he (fun i => tf (A (k + i))) (tf x) n j := by
    intro n
    induction n with
    | zero =>
      intro j k
      rfl
    | succ n ih =>
      intro j k
      rw [he_s, he_s, show k + j + 1 = k + (j + 1) by omega, ih]
  rw [e1, e2, e3, show 34 * r + 17 + 0 = 34 * r + 17 by omega, e3]
  rfl
/-! cells by row -/
theorem tkA_row (A : Nat → Nat) (fm pr f : Nat) {r i : Nat} (hi : i < 34) : tkA A fm pr f 34 (34 * r + i) = if r = fm then (A (34 * r + i) + 2147483647 - f * A (34 * pr + i) % 2147483647) % 2147483647 else A (34 * r + i) := by
  unfold tkA
  by_cases h : r = fm
  · rw [if_pos h, if_pos (by omega), show 34 * r + i - 34 * fm = i by omega]
  · rw [if_neg h, if_neg (by omega)]
theorem cpA_row (A : Nat → Nat) (ds sr : Nat) {r i : Nat} (hi : i < 34) : cpA A ds sr 34 (34 * r + i) = if r = ds then A (34 * sr + i) else A (34 * r + i) := by
  unfold cpA
  by_cases h : r = ds
  · rw [if_pos h, if_pos (by omega), show 34 * r + i - 34 * ds = i by omega]
  · rw [if_neg h, if_neg (by omega)]
theorem scA_row (A : Nat → Nat) (p f : Nat) {r i : Nat} (hi : i < 34) : scA A p f 34 (34 * r + i) = if r = p then A (34 * r + i) * f % 2147483647 else A (34 * r + i) := by
  unfold scA
  by_cases h : r = p
  · rw [if_pos h, if_pos (by omega)]
  · rw [if_neg h, if_neg (by omega)]
theorem siA_row (A V : Nat → Nat) (p f : Nat) {i : Nat} (hi : i < 34) : ∀ n r, siA A V p f n (34 * r + i) = if r < n ∧ r ≠ p then (A (34 * r + i) + 2147483647 - (V r * f % 2147483647) * A (34 * p + i) % 2147483647) % 2147483647 else A (34 * r + i)
  | 0, r => by rw [siA, if_neg (by omega)]
  | n + 1, r => by
    rw [siA]
    by_cases hn : n = p
    · rw [if_pos hn, siA_row A V p f hi n r]
      by_cases h : r < n ∧ r ≠ p
      · rw [if_pos h, if_pos (by omega)]
      · rw [if_neg h, if_neg (by omega)]
    · rw [if_neg hn, tkA_row _ _ _ _ hi, siA_row A V p f hi n r, siA_row A V p f hi n p, if_neg (c := p < n ∧ p ≠ p) (by omega)]
      by_cases hr : r = n
      · rw [if_pos hr, if_neg (by omega), if_pos (by omega), hr]
      · rw [if_neg hr]
        by_cases h : r < n ∧ r ≠ p
        · rw [if_pos h, if_pos (by omega)]
        · rw [if_neg h, if_neg (by omega)]
theorem leA_row (A : Nat → Nat) (p c : Nat) (hc : c < 34) : ∀ n r i, i < 34 → leA A p c n (34 * r + i) = if r < n ∧ r ≠ p then (A (34 * r + i) + 2147483647 - A (34 * r + c) * A (34 * p + i) % 2147483647) % 2147483647 else A (34 * r + i)
  | 0, r, i, hi => by rw [leA, if_neg (by omega)]
  | n + 1, r, i, hi => by
    rw [leA]
    by_cases hn : n = p
    · rw [if_pos hn, leA_row A p c hc n r i hi]
      by_cases h : r < n ∧ r ≠ p
      · rw [if_pos h, if_pos (by omega)]
      · rw [if_neg h, if_neg (by omega)]
    · rw [if_neg hn, tkA_row _ _ _ _ hi, leA_row A p c hc n r i hi, leA_row A p c hc n p i hi, leA_row A p c hc n n c hc, if_neg (c := p < n ∧ p ≠ p) (by omega), if_neg (c := n < n ∧ n ≠ p) (by omega)]
      by_cases hr : r = n
      · rw [if_pos hr, if_neg (by omega), if_pos (by omega), hr]
      · rw [if_neg hr]
        by_cases h : r < n ∧ r ≠ p
        · rw [if_pos h, if_pos (by omega)]
        · rw [if_neg h, if_neg (by omega)]
theorem swR_row (A : Nat → Nat) (p q : Nat) : ∀ n r i, n ≤ 34 → i < 34 → swR A p q n (34 * r + i) = if i < n then (if r = q then A (34 * p + i) else if r = p then A (34 * q + i) else A (34 * r + i)) else A (34 * r + i)
  | 0, r, i, _, hi => by rw [swR, if_neg (by omega)]
  | n + 1, r, i, hn, hi => by
    have ep : swR A p q n (34 * p + n) = A (34 * p + n) := by rw [swR_row A p q n p n (by omega) (by omega), if_neg (by omega)]
    have eq : swR A p q n (34 * q + n) = A (34 * q + n) := by rw [swR_row A p q n q n (by omega) (by omega), if_neg (by omega)]
    rw [swR, ep, eq]
    by_cases h1 : 34 * r + i = 34 * q + n
    · rw [h1, updN_s, if_pos (by omega), if_pos (by omega), show i = n by omega]
    · rw [updN_n _ _ h1]
      by_cases h2 : 34 * r + i = 34 * p + n
      · rw [h2, updN_s, if_pos (by omega), if_neg (by omega), if_pos (by omega), show i = n by omega]
      · rw [updN_n _ _ h2, swR_row A p q n r i (by omega) hi]
        by_cases h3 : i < n
        · rw [if_pos h3, if_pos (c := i < n + 1) (by omega)]
        · rw [if_neg h3]
          by_cases h4 : i < n + 1
          · rw [if_pos h4, if_neg (by omega), if_neg (by omega)]
          · rw [if_neg h4]
/-! the first sieve -/
theorem z0A_at (A : Nat → Nat) : ∀ n j, z0A A n j = if j < n then 0 else A j
  | 0, j => by rw [z0A, if_neg (by omega)]
  | n + 1, j => by
    rw [z0A]
    by_cases hj : j = n
    · rw [hj, updN_s, if_pos (by omega)]
    · rw [updN_n _ _ hj, z0A_at A n j]
      by_cases h : j < n
      · rw [if_pos h, if_pos (by omega)]
      · rw [if_neg h, if_neg (by omega)]
theorem o1A_row (A : Nat → Nat) {r i : Nat} (hi : i < 34) : ∀ n, n ≤ 17 → o1A A n (34 * r + i) = if r < n ∧ i = r then 1 else A (34 * r + i)
  | 0, _ => by rw [o1A, if_neg (by omega)]
  | n + 1, hn => by
    rw [o1A]
    by_cases h1 : 34 * r + i = 34 * n + n
    · rw [h1, updN_s, if_pos (by omega)]
    · rw [updN_n _ _ h1, o1A_row A hi n (by omega)]
      by_cases h : r < n ∧ i = r
      · rw [if_pos h, if_pos (by omega)]
      · rw [if_neg h, if_neg (by omega)]
theorem o2A_row (A : Nat → Nat) (u : Nat) {r i : Nat} (hi : i < 34) : ∀ n, n ≤ 17 → o2A A u n (34 * r + i) = if u + 1 ≤ r ∧ r < u + 1 + n ∧ i = 17 + (r - (u + 1)) then 1 else A (34 * r + i)
  | 0, _ => by rw [o2A, if_neg (by omega)]
  | n + 1, hn => by
    rw [o2A]
    by_cases h1 : 34 * r + i = 34 * (u + 1 + n) + 17 + n
    · rw [h1, updN_s, if_pos (by omega)]
    · rw [updN_n _ _ h1, o2A_row A u hi n (by omega)]
      by_cases h : u + 1 ≤ r ∧ r < u + 1 + n ∧ i = 17 + (r - (u + 1))
      · rw [if_pos h, if_pos (by omega)]
      · rw [if_neg h, if_neg (by omega)]
theorem apA_row (A : Nat → Nat) {u l r i : Nat} (hul : u + l ≤ 16) (hr : r < u + l + 2) (hi : i < 34) : apA A u l (34 * r + i) = if (if r ≤ u then i = r else i = 17 + (r - (u + 1))) then 1 else 0 := by
  rw [apA, o2A_row _ _ hi _ (by omega), o1A_row _ hi _ (by omega), z0A_at]
  by_cases h : r ≤ u
  · rw [if_neg (by omega)]
    by_cases h2 : i = r
    · rw [if_pos (by omega), if_pos (by rw [if_pos h]; exact h2)]
    · rw [if_neg (by omega), if_pos (by omega), if_neg (by rw [if_pos h]; exact h2)]
  · by_cases h2 : i = 17 + (r - (u + 1))
    · rw [if_pos (by omega), if_pos (by rw [if_neg h]; exact h2)]
    · rw [if_neg (by omega), if_neg (by omega), if_pos (by omega), if_neg (by rw [if_neg h]; exact h2)]
