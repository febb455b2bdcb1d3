/-! reduced fractions are one -/
def rdF (U W : mF → mF) (du : Nat) (u : mF → mF) (dw : Nat) (w : mF → mF) : Prop :=
  du ≤ 100 ∧ dw ≤ 100 ∧ lc du 1 u ∧ lc dw 1 w ∧ ∃ (G : mF → mF) (dg : Nat), dg ≤ 100 ∧ lc dg 1 G ∧ (∀ x, U x = G x * u x) ∧ (∀ x, W x = G x * w x) ∧ ∃ s t : mF → mF, pf 1000 s ∧ pf 1000 t ∧ ∀ x, s x * u x + t x * w x = 1
theorem rdF_half {du1 du2 dw2 : Nat} {u1 w1 u2 w2 s t : mF → mF} (b1 : du1 ≤ 100) (b2 : du2 ≤ 100) (b4 : dw2 ≤ 100) (hu1 : lc du1 1 u1) (hu2 : lc du2 1 u2) (hw2 : lc dw2 1 w2) (hs : pf 1000 s) (ht : pf 1000 t) (hst : ∀ x, s x * u1 x + t x * w1 x = 1) (hx : ∀ x, u1 x * w2 x = u2 x * w1 x) : ∃ e c, du2 = du1 + e ∧ lc e c (fun x => s x * u2 x + t x * w2 x) ∧ c = 1 ∧ ∀ x, u2 x = u1 x * (s x * u2 x + t x * w2 x) := by
  have hh : ∀ x, u2 x = u1 x * (s x * u2 x + t x * w2 x) := by
    intro x
    have h1 := hst x
    have h2 := hx x
    have h3 : u2 x = u2 x * (s x * u1 x + t x * w1 x) := by rw [h1]; grind
    have h4 : u2 x * (s x * u1 x + t x * w1 x) = s x * u1 x * u2 x + t x * (u2 x * w1 x) := by grind
    rw [← h2] at h4
    rw [h4] at h3
    generalize s x = a at *
    generalize t x = b at *
    grind
  have hp : pf 1101 (fun x => s x * u2 x + t x * w2 x) :=
    ((hs.mul hu2.pn).mono (by omega)).add ((ht.mul hw2.pn).mono (by omega))
  have h10 := mF_10
  rcases hp.lead with z | ⟨e, c, h2, h3, h4⟩
  · exfalso
    refine lc_ne (by omega) hu2 h10 ?_
    intro x
    rw [hh x, z x]
    grind
  · have h5 : lc (du1 + e) (1 * c) u2 := (hu1.mul h4).congr (fun x => (hh x).symm)
    obtain ⟨h6, h7⟩ := lc_uq (by omega) (by omega) hu2 h10 h5 (mF_mne h10 h3)
    exact ⟨e, c, h6, h4, by grind, hh⟩
theorem rdF_uq {U1 W1 U2 W2 u1 w1 u2 w2 : mF → mF} {du1 dw1 du2 dw2 : Nat} (h1 : rdF U1 W1 du1 u1 dw1 w1) (h2 : rdF U2 W2 du2 u2 dw2 w2) (he : ∀ x, U1 x * W2 x = U2 x * W1 x) : du1 = du2 ∧ dw1 = dw2 ∧ (∀ x, u1 x = u2 x) ∧ ∀ x, w1 x = w2 x := by
  obtain ⟨a1, a2, a3, a4, G1, dg1, a5, a6, a7, a8, s1, t1, a9, a10, a11⟩ := h1
  obtain ⟨b1, b2, b3, b4, G2, dg2, b5, b6, b7, b8, s2, t2, b9, b10, b11⟩ := h2
  have h10 := mF_10
  have hx : ∀ x, u1 x * w2 x = u2 x * w1 x := by
    have hG : lc (dg1 + dg2) (1 * 1) (fun x => G1 x * G2 x) := a6.mul b6
    have hp : pf 202 (fun x => u1 x * w2 x - u2 x * w1 x) :=
      ((a3.pn.mul b4.pn).mono (by omega)).sub ((b3.pn.mul a4.pn).mono (by omega))
    have hz := pf_dom hG (mF_mne h10 h10) hp (by omega) (by
      intro x
      try dsimp only
      have z := he x
      rw [a7, a8, b7, b8] at z
      generalize G1 x = g1 at *
      generalize G2 x = g2 at *
      grind)
    intro x
    have := hz x
    grind
  obtain ⟨e, c, c1, c2, c3, c4⟩ := rdF_half a1 b1 b2 a3 b3 b4 a9 a10 a11 hx
  obtain ⟨e', c', c1', c2', c3', c4'⟩ := rdF_half b1 a1 a2 b3 a3 a4 b9 b10 b11 (fun x => (hx x).symm)
  have e0 : e = 0 := by omega
  subst e0
  have hh : ∀ x, s1 x * u2 x + t1 x * w2 x = 1 := by
    intro x
    have z := pf.zero c2 x
    simp only [c3] at z
    generalize s1 x * u2 x + t1 x * w2 x = k at *
    grind
  have hu : ∀ x, u1 x = u2 x := by
    intro x
    have z := c4 x
    rw [hh x] at z
    grind
  have hw : ∀ x, w1 x = w2 x := by
    intro x
    have z1 := hh x
    have z2 := hx x
    have z3 := a11 x
    rw [hu x] at z2 z3
    -- u2 w2 = u2 w1; s u2 + t w2 = 1, s u2 + t w1 = 1
    have z4 : w2 x = w2 x * (s1 x * u2 x + t1 x * w1 x) := by rw [z3]; grind
    have z5 : w1 x = w1 x * (s1 x * u2 x + t1 x * w2 x) := by rw [z1]; grind
    have z6 : w2 x * (s1 x * u2 x + t1 x * w1 x) = s1 x * (u2 x * w2 x) + t1 x * w1 x * w2 x := by grind
    have z7 : w1 x * (s1 x * u2 x + t1 x * w2 x) = s1 x * (u2 x * w1 x) + t1 x * w1 x * w2 x := by grind
    rw [z4, z6, z2, ← z7, ← z5]
  refine ⟨by omega, ?_, hu, hw⟩
  exact (lc_uq (by omega) (by omega) a4 h10 (b4.congr (fun x => (hw x).symm)) h10).1
/-! arrays of factors as functions -/
def hv (A : Nat → Nat) (x : mF) : Nat → Nat → mF
  | 0, _ => 0
  | n + 1, j => hv A x n (j + 1) * x + tf (A j)
theorem hv_S (A : Nat → Nat) (x : Nat) : ∀ n j, tf (hvS A x n j) = hv A (tf x) n j
  | 0, _ => by rw [hvS, hv, tf_0]
  | n + 1, j => by
    have ih := hv_S A x n (j + 1)
    rw [hvS, hv, tf_mod, tf_add, tf_mod, tf_mul, ih]
theorem hv_ev (A : Nat → Nat) (x : mF) : ∀ n j, hv A x n j = ev ((List.range' j n).map (fun i => tf (A i))) x
  | 0, _ => by rw [hv, List.range'_zero, List.map_nil, ev_nil]
  | n + 1, j => by
    have ih := hv_ev A x n (j + 1)
    rw [hv, ih, List.range'_succ, List.map_cons, ev_cons]
    grind
theorem hv_pf (A : Nat → Nat) (n j : Nat) : pf n (fun x => hv A x n j) :=
  ⟨(List.range' j n).map (fun i => tf (A i)), by rw [List.length_map, List.length_range']; omega, fun x => (hv_ev A x n j).symm⟩
theorem hv_app (A : Nat → Nat) (x : mF) (m : Nat) : ∀ n j, hv A x (n + m) j = hv A x n j + x ^ n * hv A x m (j + n)
  | 0, j => by
    rw [Nat.zero_add, hv, Nat.add_zero]
    grind
  | n + 1, j => by
    have ih := hv_app A x m n (j + 1)
    rw [show n + 1 + m = n + m + 1 by omega, hv, ih, hv, show j + 1 + n = j + (n + 1) by omega]
    generalize hv A x m (j + (n + 1)) = z
    generalize hv A x n (j + 1) = y
    grind
theorem hv_top (A : Nat → Nat) (x : mF) (n j : Nat) : hv A x (n + 1) j = hv A x n j + tf (A (j + n)) * x ^ n := by
  rw [hv_app A x 1 n j, hv, hv]
  grind
theorem hv_lc (A : Nat → Nat) (n : Nat) : lc n (tf (A n)) (fun x => hv A x (n + 1) 0) := by
  refine pf.congr (hv_pf A n 0) ?_
  intro x
  dsimp only
  rw [hv_top, Nat.zero_add]
  grind
theorem hv_cg {A B : Nat → Nat} (x : mF) : ∀ n j, (∀ i, j ≤ i → i < j + n → tf (A i) = tf (B i)) → hv A x n j = hv B x n j
  | 0, _, _ => rfl
  | n + 1, j, h => by
    rw [hv, hv, hv_cg x n (j + 1) (fun i h1 h2 => h i (by omega) (by omega)), h j (by omega) (by omega)]
theorem hv_sh (A : Nat → Nat) (x : mF) (k : Nat) : ∀ n j, hv (fun i => A (i + k)) x n j = hv A x n (j + k)
  | 0, _ => rfl
  | n + 1, j => by
    rw [hv, hv, hv_sh A x k n (j + 1), show j + 1 + k = j + k + 1 by omega]
theorem hv_coef {A B : Nat → Nat} : ∀ n, n ≤ 1000 → (∀ x, hv A x n 0 = hv B x n 0) → ∀ i, i < n → tf (A i) = tf (B i)
  | 0, _, _, i, hi => absurd hi (Nat.not_lt_zero i)
  | n + 1, hn, h, i, hi => by
    have h1 : tf (A n) = tf (B n) := lc_eq (by omega) (hv_lc A n) ((hv_lc B n).congr (fun x => (h x).symm))
    have h2 : ∀ x, hv A x n 0 = hv B x n 0 := by
      intro x
      have z := h x
      rw [hv_top, hv_top, Nat.zero_add, h1] at z
      grind
    by_cases hin : i = n
    · rw [hin, h1]
    · exact hv_coef n (by omega) h2 i (by omega)
