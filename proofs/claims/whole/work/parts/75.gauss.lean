/-! Gauss and Jordan: the class's equations -/
def dt (A : Nat → Nat) (z : Nat → mF) : Nat → mF
  | 0 => 0
  | n + 1 => dt A z n + tf (A n) * z n
theorem dt_0 (A : Nat → Nat) (z : Nat → mF) : dt A z 0 = 0 := rfl
theorem dt_s (A : Nat → Nat) (z : Nat → mF) (n : Nat) : dt A z (n + 1) = dt A z n + tf (A n) * z n := rfl
theorem dt_cg {A B : Nat → Nat} {z : Nat → mF} : ∀ n, (∀ i, i < n → tf (A i) = tf (B i)) → dt A z n = dt B z n
  | 0, _ => rfl
  | n + 1, h => by rw [dt_s, dt_s, dt_cg n (fun i hi => h i (by omega)), h n (by omega)]
theorem dt_lin {D A U : Nat → Nat} {z : Nat → mF} (m : mF) : ∀ n, (∀ i, i < n → tf (D i) = tf (A i) - m * tf (U i)) → dt D z n = dt A z n - m * dt U z n
  | 0, _ => by
    rw [dt_0, dt_0, dt_0]
    grind
  | n + 1, h => by
    rw [dt_s, dt_s, dt_s, dt_lin m n (fun i hi => h i (by omega)), h n (by omega)]
    grind
theorem dt_mul {D A : Nat → Nat} {z : Nat → mF} (m : mF) : ∀ n, (∀ i, i < n → tf (D i) = m * tf (A i)) → dt D z n = m * dt A z n
  | 0, _ => by
    rw [dt_0, dt_0]
    grind
  | n + 1, h => by
    rw [dt_s, dt_s, dt_mul m n (fun i hi => h i (by omega)), h n (by omega)]
    grind
theorem dt_none {A : Nat → Nat} {z : Nat → mF} : ∀ n, (∀ i, i < n → tf (A i) * z i = 0) → dt A z n = 0
  | 0, _ => rfl
  | n + 1, h => by
    rw [dt_s, dt_none n (fun i hi => h i (by omega)), h n (by omega)]
    grind
theorem dt_one {A : Nat → Nat} {z : Nat → mF} {j : Nat} : ∀ n, j < n → (∀ i, i < n → i ≠ j → tf (A i) * z i = 0) → dt A z n = tf (A j) * z j
  | 0, h, _ => absurd h (Nat.not_lt_zero j)
  | n + 1, h, hz => by
    rw [dt_s]
    by_cases hj : j = n
    · subst hj
      rw [dt_none j (fun i hi => hz i (by omega) (by omega))]
      grind
    · rw [dt_one n (by omega) (fun i hi hne => hz i (by omega) hne), hz n (by omega) (by omega)]
      grind
theorem dt_app (A : Nat → Nat) (z : Nat → mF) (u : Nat) : ∀ m, dt A z (u + m) = dt A z u + dt (fun i => A (u + i)) (fun i => z (u + i)) m
  | 0 => by
    rw [dt_0, Nat.add_zero]
    grind
  | m + 1 => by
    rw [show u + (m + 1) = u + m + 1 by omega, dt_s, dt_app A z u m, dt_s]
    grind
theorem dt_geo {A V : Nat → Nat} {z : Nat → mF} (s x : mF) : ∀ n, (∀ i, i < n → tf (A i) = s * x ^ i) → (∀ i, i < n → z i = tf (V i)) → dt A z n = s * hv V x n 0
  | 0, _, _ => by
    rw [dt_0, hv_0]
    grind
  | n + 1, h1, h2 => by
    rw [dt_s, dt_geo s x n (fun i hi => h1 i (by omega)) (fun i hi => h2 i (by omega)), h1 n (by omega), h2 n (by omega), hv_top, Nat.zero_add]
    grind
def sat (c : Nat) (M : Nat → Nat → Nat) (z : Nat → mF) : Prop := ∀ r, r < c → dt (M r) z (c + 1) = 0
theorem cl1_at (A U : Nat → Nat) (mu col : Nat) : ∀ i j, cl1 A U mu col i j = if col ≤ j ∧ j < col + i then (A j + 2147483647 - mu * U j % 2147483647) % 2147483647 else A j
  | 0, j => by rw [cl1, if_neg (by omega)]
  | i + 1, j => by
    rw [cl1]
    by_cases hj : j = col + i
    · subst hj
      rw [updN_s, cl1_at A U mu col i, if_neg (by omega), if_pos (by omega)]
    · rw [updN_n _ _ hj, cl1_at A U mu col i j]
      by_cases h : col ≤ j ∧ j < col + i
      · rw [if_pos h, if_pos (by omega)]
      · rw [if_neg h, if_neg (by omega)]
theorem sc1_at (A : Nat → Nat) (s fm : Nat) : ∀ i j, sc1 A s fm i j = if fm ≤ j ∧ j < fm + i then A j * s % 2147483647 else A j
  | 0, j => by rw [sc1, if_neg (by omega)]
  | i + 1, j => by
    rw [sc1]
    by_cases hj : j = fm + i
    · subst hj
      rw [updN_s, sc1_at A s fm i, if_neg (by omega), if_pos (by omega)]
    · rw [updN_n _ _ hj, sc1_at A s fm i j]
      by_cases h : fm ≤ j ∧ j < fm + i
      · rw [if_pos h, if_pos (by omega)]
      · rw [if_neg h, if_neg (by omega)]
theorem clr_at (M : Nat → Nat → Nat) (us col c : Nat) : ∀ n r, clr M us col c n r = if r < n ∧ r ≠ us ∧ M r col ≠ 0 then cl1 (M r) (M us) (M r col) col (c + 1 - col) else M r
  | 0, r => by rw [clr, if_neg (by omega)]
  | n + 1, r => by
    have e1 : clr M us col c n n = M n := by rw [clr_at M us col c n n, if_neg (by omega)]
    have e2 : clr M us col c n us = M us := by rw [clr_at M us col c n us, if_neg (by omega)]
    rw [clr, e1, e2]
    by_cases h1 : n = us
    · rw [if_pos h1, clr_at M us col c n r]
      by_cases h : r < n ∧ r ≠ us ∧ M r col ≠ 0
      · rw [if_pos h, if_pos ⟨by omega, h.2⟩]
      · rw [if_neg h, if_neg (fun z => h ⟨by have := z.2.1; omega, z.2⟩)]
    · rw [if_neg h1]
      by_cases h2 : M n col = 0
      · rw [if_pos h2, clr_at M us col c n r]
        by_cases h : r < n ∧ r ≠ us ∧ M r col ≠ 0
        · rw [if_pos h, if_pos ⟨by omega, h.2⟩]
        · rw [if_neg h, if_neg (fun z => h ⟨by
            have h3 := z.1
            by_cases h4 : r = n
            · exact absurd (by rw [h4]; exact h2) z.2.2
            · omega, z.2⟩)]
      · rw [if_neg h2]
        by_cases hr : r = n
        · subst hr
          rw [updM_s, if_pos ⟨by omega, h1, h2⟩]
        · rw [updM_n _ _ hr, clr_at M us col c n r]
          by_cases h : r < n ∧ r ≠ us ∧ M r col ≠ 0
          · rw [if_pos h, if_pos ⟨by omega, h.2⟩]
          · rw [if_neg h, if_neg (fun z => h ⟨by have := z.1; omega, z.2⟩)]
theorem fz_ok (M : Nat → Nat → Nat) (col : Nat) : ∀ n row, row ≤ fz M col n row ∧ fz M col n row ≤ row + n ∧ (∀ i, row ≤ i → i < fz M col n row → M i col = 0) ∧ (fz M col n row < row + n → M (fz M col n row) col ≠ 0)
  | 0, row => by
    rw [fz]
    exact ⟨by omega, by omega, fun i h1 h2 => by omega, fun h => by omega⟩
  | n + 1, row => by
    rw [fz]
    by_cases h : M row col = 0
    · rw [if_pos h]
      obtain ⟨h1, h2, h3, h4⟩ := fz_ok M col n (row + 1)
      refine ⟨by omega, by omega, ?_, fun z => h4 (by omega)⟩
      intro i z1 z2
      by_cases hi : i = row
      · rw [hi]
        exact h
      · exact h3 i (by omega) z2
    · rw [if_neg h]
      exact ⟨by omega, by omega, fun i h1 h2 => by omega, fun _ => h⟩
theorem rs0_t (M : Nat → Nat → Nat) (c : Nat) : ∀ n row, rs0 M c n row = true → ∀ r, row ≤ r → r < row + n → M r c = 0
  | 0, _, _, r, h1, h2 => by omega
  | n + 1, row, h, r, h1, h2 => by
    rw [rs0] at h
    by_cases h3 : M row c = 0
    · rw [if_pos h3] at h
      by_cases hr : r = row
      · rw [hr]
        exact h3
      · exact rs0_t M c n (row + 1) h r (by omega) (by omega)
    · rw [if_neg h3] at h
      exact absurd h (by decide)
theorem rs0_f (M : Nat → Nat → Nat) (c : Nat) : ∀ n row, rs0 M c n row = false → ∃ r, row ≤ r ∧ r < row + n ∧ M r c ≠ 0
  | 0, _, h => by
    rw [rs0] at h
    exact absurd h (by decide)
  | n + 1, row, h => by
    rw [rs0] at h
    by_cases h3 : M row c = 0
    · rw [if_pos h3] at h
      obtain ⟨r, h4, h5, h6⟩ := rs0_f M c n (row + 1) h
      exact ⟨r, by omega, by omega, h6⟩
    · exact ⟨row, by omega, by omega, h3⟩
def gI (c : Nat) (M0 : Nat → Nat → Nat) (col : Nat) (M : Nat → Nat → Nat) (uk : Nat → Option Nat) (us : Nat) : Prop :=
  (∀ z, sat c M z ↔ sat c M0 z) ∧ us ≤ col ∧ (∀ r, us ≤ r → r < c → ∀ j, j < col → M r j = 0) ∧ (∀ j r, j < col → uk j = some r → r < us ∧ ∀ i, i < c → M i j = if i = r then 1 else 0) ∧ (∀ r, r < us → ∃ j, j < col ∧ uk j = some r ∧ ∀ k, k < col → uk k = some r → k = j) ∧ (∀ i, i < 16 → lt17 (M i)) ∧ ∀ j, col ≤ j → j < 16 → uk j = none
/-- no row has anything in the column: nothing is done -/
theorem gI_skip {c col us : Nat} {M0 M : Nat → Nat → Nat} {uk : Nat → Option Nat} (hc : c ≤ 16) (hcol : col < c) (h : gI c M0 col M uk us) (hz : ∀ i, us ≤ i → i < c → M i col = 0) : gI c M0 (col + 1) M uk us := by
  obtain ⟨h1, h2, h3, h4, h5, h6, h7⟩ := h
  have hn := h7 col (by omega) (by omega)
  refine ⟨h1, by omega, ?_, ?_, ?_, h6, fun j z1 z2 => h7 j (by omega) z2⟩
  · intro r z1 z2 j z3
    by_cases hj : j = col
    · rw [hj]
      exact hz r z1 z2
    · exact h3 r z1 z2 j (by omega)
  · intro j r z1 z2
    by_cases hj : j = col
    · rw [hj, hn] at z2
      exact absurd z2 (by simp)
    · exact h4 j r (by omega) z2
  · intro r z1
    obtain ⟨j, k1, k2, k3⟩ := h5 r z1
    refine ⟨j, by omega, k2, ?_⟩
    intro k z2 z3
    by_cases hk : k = col
    · rw [hk, hn] at z3
      exact absurd z3 (by simp)
    · exact k3 k (by omega) z3
/-- the row that is used is made 1 in the column, the others 0 -/
theorem gI_step {c col us p : Nat} {M0 M M3 : Nat → Nat → Nat} {uk : Nat → Option Nat} {U2 : Nat → Nat} {s : mF} (hc : c ≤ 16) (hcol : col < c) (h : gI c M0 col M uk us) (hp1 : us ≤ p) (hp2 : p < c) (hs : s * tf (M p col) = 1)
    (hU : ∀ j, j ≤ c → tf (U2 j) = s * tf (M p j)) (hU1 : U2 col = 1) (hUz : ∀ j, j < col → U2 j = 0)
    (hM3 : ∀ r, r < c → r ≠ us → ∀ j, j ≤ c → tf (M3 r j) = tf (swM M p us r j) - tf (swM M p us r col) * tf (U2 j)) (hMu : M3 us = U2) (hlow : ∀ r, r < c → r ≠ us → ∀ j, j < col → M3 r j = swM M p us r j) (hcl : ∀ r, r < c → r ≠ us → M3 r col = 0) (hl : ∀ i, i < 16 → lt17 (M3 i)) : gI c M0 (col + 1) M3 (updU uk col (some us)) (us + 1) := by
  obtain ⟨h1, h2, h3, h4, h5, h6, h7⟩ := h
  have hsw : ∀ r, r ≠ us → swM M p us r = if r = p then M us else M r := fun r hr => by rw [swM, if_neg hr]
  refine ⟨?_, by omega, ?_, ?_, ?_, hl, ?_⟩
  · intro z
    rw [← h1 z]
    have eU : dt U2 z (c + 1) = s * dt (M p) z (c + 1) := dt_mul s _ (fun i hi => hU i (by omega))
    have eR : ∀ r, r < c → r ≠ us → dt (M3 r) z (c + 1) = dt (swM M p us r) z (c + 1) - tf (swM M p us r col) * dt U2 z (c + 1) := fun r z1 z2 => dt_lin _ _ (fun i hi => hM3 r z1 z2 i (by omega))
    constructor
    · intro hs3
      have k1 : dt U2 z (c + 1) = 0 := by
        have := hs3 us (by omega)
        rw [hMu] at this
        exact this
      have k2 : dt (M p) z (c + 1) = 0 := by
        rw [k1] at eU
        have k3 : dt (M p) z (c + 1) = (s * tf (M p col)) * dt (M p) z (c + 1) := by rw [hs]; grind
        generalize tf (M p col) = y at *
        generalize dt (M p) z (c + 1) = w at *
        grind
      have k4 : ∀ r, r < c → r ≠ us → dt (swM M p us r) z (c + 1) = 0 := by
        intro r z1 z2
        have k5 := eR r z1 z2
        rw [hs3 r z1, k1] at k5
        grind
      intro r hr
      by_cases hrp : r = p
      · rw [hrp]
        exact k2
      · by_cases hru : r = us
        · have k6 := k4 p hp2 (by omega)
          rw [hsw p (by omega), if_pos rfl] at k6
          rw [hru]
          exact k6
        · have k6 := k4 r hr hru
          rw [hsw r hru, if_neg hrp] at k6
          exact k6
    · intro hs0
      have k1 : dt U2 z (c + 1) = 0 := by
        rw [eU, hs0 p hp2]
        grind
      intro r hr
      by_cases hru : r = us
      · rw [hru, hMu]
        exact k1
      · rw [eR r hr hru, k1, hsw r hru]
        by_cases hrp : r = p
        · rw [if_pos hrp, hs0 us (by omega)]
          grind
        · rw [if_neg hrp, hs0 r hr]
          grind
  · intro r z1 z2 j z3
    by_cases hj : j = col
    · rw [hj]
      exact hcl r z2 (by omega)
    · rw [hlow r z2 (by omega) j (by omega), hsw r (by omega)]
      by_cases hrp : r = p
      · rw [if_pos hrp]
        exact h3 us (by omega) (by omega) j (by omega)
      · rw [if_neg hrp]
        exact h3 r (by omega) z2 j (by omega)
  · intro j r z1 z2
    by_cases hj : j = col
    · subst hj
      rw [updU, if_pos rfl] at z2
      have : us = r := Option.some.inj z2
      subst this
      refine ⟨by omega, ?_⟩
      intro i hi
      by_cases hiu : i = us
      · rw [if_pos hiu, hiu, hMu, hU1]
      · rw [if_neg hiu]
        exact hcl i hi hiu
    · rw [updU, if_neg hj] at z2
      obtain ⟨k1, k2⟩ := h4 j r (by omega) z2
      refine ⟨by omega, ?_⟩
      intro i hi
      by_cases hiu : i = us
      · rw [hiu, hMu, hUz j (by omega), if_neg (by omega)]
      · rw [hlow i hi hiu j (by omega), hsw i hiu]
        by_cases hip : i = p
        · rw [if_pos hip, k2 us (by omega), if_neg (by omega), if_neg (by omega)]
        · rw [if_neg hip]
          exact k2 i hi
  · intro r z1
    by_cases hr : r = us
    · subst hr
      refine ⟨col, by omega, by rw [updU, if_pos rfl], ?_⟩
      intro k z2 z3
      by_cases hk : k = col
      · exact hk
      · rw [updU, if_neg hk] at z3
        have := (h4 k r (by omega) z3).1
        omega
    · obtain ⟨j, k1, k2, k3⟩ := h5 r (by omega)
      refine ⟨j, by omega, by rw [updU, if_neg (by omega)]; exact k2, ?_⟩
      intro k z2 z3
      by_cases hk : k = col
      · rw [hk, updU, if_pos rfl] at z3
        have := Option.some.inj z3
        omega
      · rw [updU, if_neg hk] at z3
        exact k3 k (by omega) z3
  · intro j z1 z2
    rw [updU, if_neg (by omega)]
    exact h7 j (by omega) z2
