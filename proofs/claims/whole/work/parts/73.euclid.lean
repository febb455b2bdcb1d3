/-! Division and the common divisor -/
theorem hv_0 (A : Nat → Nat) (x : mF) (j : Nat) : hv A x 0 j = 0 := rfl
theorem hv_s (A : Nat → Nat) (x : mF) (n j : Nat) : hv A x (n + 1) j = hv A x n (j + 1) * x + tf (A j) := rfl
theorem hv_lin {D A B : Nat → Nat} (m x : mF) : ∀ q j k, (∀ i, i < q → tf (D (j + i)) = tf (A (j + i)) - m * tf (B (k + i))) → hv D x q j = hv A x q j - m * hv B x q k
  | 0, _, _, _ => by
    rw [hv_0, hv_0, hv_0]
    grind
  | q + 1, j, k, h => by
    have ih := hv_lin m x q (j + 1) (k + 1) (fun i hi => by
      have := h (i + 1) (by omega)
      rw [show j + (i + 1) = j + 1 + i by omega, show k + (i + 1) = k + 1 + i by omega] at this
      exact this)
    have h0 := h 0 (by omega)
    rw [Nat.add_zero, Nat.add_zero] at h0
    rw [hv_s, hv_s, hv_s, ih, h0]
    grind
theorem hv_mul {D A : Nat → Nat} (c x : mF) : ∀ n j, (∀ i, j ≤ i → i < j + n → tf (D i) = c * tf (A i)) → hv D x n j = c * hv A x n j
  | 0, _, _ => by
    rw [hv_0, hv_0]
    grind
  | n + 1, j, h => by
    rw [hv_s, hv_s, hv_mul c x n (j + 1) (fun i h1 h2 => h i (by omega) (by omega)), h j (by omega) (by omega)]
    grind
theorem di1_at (A : Nat → Nat) (mu s : Nat) (B : Nat → Nat) : ∀ i j, di1 A mu s B i j = if s ≤ j ∧ j < s + i then (A j + 2147483647 - mu * B (j - s) % 2147483647) % 2147483647 else A j
  | 0, j => by rw [di1, if_neg (by omega)]
  | i + 1, j => by
    rw [di1]
    by_cases hj : j = s + i
    · subst hj
      rw [updN_s, di1_at A mu s B i, if_neg (by omega), if_pos (by omega), show s + i - s = i by omega]
    · rw [updN_n _ _ hj, di1_at A mu s B i j]
      by_cases h : s ≤ j ∧ j < s + i
      · rw [if_pos h, if_pos (by omega)]
      · rw [if_neg h, if_neg (by omega)]
theorem hv_di (A B : Nat → Nat) (mu n q : Nat) (x : mF) : hv (di1 A mu n B q) x (n + q) 0 = hv A x (n + q) 0 - tf mu * (x ^ n * hv B x q 0) := by
  have h1 : hv (di1 A mu n B q) x n 0 = hv A x n 0 := by
    apply hv_cg
    intro i _ hi
    rw [di1_at, if_neg (by omega)]
  have h2 : hv (di1 A mu n B q) x q (0 + n) = hv A x q (0 + n) - tf mu * hv B x q 0 := by
    apply hv_lin
    intro i hi
    rw [di1_at, if_pos (by omega), tf_min, show 0 + n + i - n = 0 + i by omega]
  rw [hv_app (di1 A mu n B q) x q n 0, hv_app A x q n 0, h1, h2]
  generalize x ^ n = u
  grind
theorem dv_ge (B : Nat → Nat) (q : Nat) : ∀ (n : Nat) (A : Nat → Nat) (j : Nat), n + q ≤ j + 1 → dv B q n A j = A j
  | 0, _, _, _ => rfl
  | n + 1, A, j, h => by
    rw [dv, dv_ge B q n _ j (by omega), di1_at, if_neg (by omega)]
theorem mF_pa (x : mF) (n q : Nat) : x ^ (n + q) = x ^ n * x ^ q := by grind
theorem dv_div (B : Nat → Nat) (q : Nat) (x : mF) : ∀ (n : Nat) (A : Nat → Nat), hv A x (n + q) 0 = hv (dv B q n A) x n q * (hv B x q 0 + x ^ q) + hv (dv B q n A) x q 0
  | 0, A => by
    rw [dv, hv_0, Nat.zero_add]
    grind
  | n + 1, A => by
    have ih := dv_div B q x n (di1 A (A (n + q)) n B q)
    have e1 := hv_di A B (A (n + q)) n q x
    have e2 : hv A x (n + 1 + q) 0 = hv A x (n + q) 0 + tf (A (0 + (n + q))) * x ^ (n + q) := by
      rw [show n + 1 + q = n + q + 1 by omega, hv_top]
    have e3 := hv_top (dv B q n (di1 A (A (n + q)) n B q)) x n q
    have e4 : dv B q n (di1 A (A (n + q)) n B q) (q + n) = A (n + q) := by
      rw [dv_ge B q n _ _ (by omega), di1_at, if_neg (by omega), Nat.add_comm]
    rw [e4] at e3
    rw [dv, e2, e3, mF_pa, Nat.zero_add]
    rw [e1] at ih
    generalize x ^ n = u at *
    generalize x ^ q = w at *
    generalize tf (A (n + q)) = mu at *
    generalize hv A x (n + q) 0 = y1 at *
    generalize hv B x q 0 = y2 at *
    generalize hv (dv B q n (di1 A (A (n + q)) n B q)) x n q = y3 at *
    generalize hv (dv B q n (di1 A (A (n + q)) n B q)) x q 0 = y4 at *
    grind
theorem trm_hv (A : Nat → Nat) (x : mF) : ∀ k, hv A x (trm A k) 0 = hv A x k 0
  | 0 => rfl
  | k + 1 => by
    rw [trm]
    by_cases h : A k = 0
    · rw [if_pos h, trm_hv A x k, hv_top, Nat.zero_add, h, tf_0]
      grind
    · rw [if_neg h]
theorem trm_top (A : Nat → Nat) : ∀ k, trm A k = 0 ∨ A (trm A k - 1) ≠ 0
  | 0 => Or.inl rfl
  | k + 1 => by
    rw [trm]
    by_cases h : A k = 0
    · rw [if_pos h]
      exact trm_top A k
    · rw [if_neg h]
      exact Or.inr h
theorem trm_z (A : Nat → Nat) : ∀ k i, trm A k ≤ i → i < k → A i = 0
  | 0, i, _, h => absurd h (Nat.not_lt_zero i)
  | k + 1, i, h1, h2 => by
    rw [trm] at h1
    by_cases h : A k = 0
    · rw [if_pos h] at h1
      by_cases hi : i = k
      · rw [hi]
        exact h
      · exact trm_z A k i h1 (by omega)
    · rw [if_neg h] at h1
      omega
theorem ml_at (A : Nat → Nat) (s : Nat) : ∀ n i, i < n → ml A s n i = A i * s % 2147483647
  | 0, i, h => absurd h (Nat.not_lt_zero i)
  | n + 1, i, h => by
    rw [ml]
    by_cases hi : i = n
    · subst hi
      rw [updN_s, ml_ge A s i i (Nat.le_refl i)]
    · rw [updN_n _ _ hi, ml_at A s n i (by omega)]
theorem ml_hv (A : Nat → Nat) (s : Nat) (x : mF) (n : Nat) : hv (ml A s n) x n 0 = tf s * hv A x n 0 := by
  apply hv_mul
  intro i _ hi
  rw [ml_at A s n i (by omega), tf_mod, tf_mul]
  grind
theorem ml_one {A : Nat → Nat} {k : Nat} (hl : A k < 2147483647) (h0 : A k ≠ 0) : ml A (mf_iv (A k)) (k + 1) k = 1 := by
  have h1 := tf_iv hl h0
  rw [ml_at A _ (k + 1) k (by omega), Nat.mul_comm]
  rw [← tf_mul, ← tf_mod] at h1
  exact tf_inj (Nat.mod_lt _ (by decide)) (by decide) (by rw [h1, tf_1])
theorem eu_0 (n kg : Nat) (G S : Nat → Nat) : eu n kg G 0 S = (kg, G) := by cases n <;> rfl
theorem eu_s (n kg : Nat) (G : Nat → Nat) (ks : Nat) (S : Nat → Nat) : eu (n + 1) kg G (ks + 1) S = eu n (ks + 1) (ml S (mf_iv (S ks)) (ks + 1)) (trm (dv (ml S (mf_iv (S ks)) (ks + 1)) ks (kg - ks) G) (min kg ks)) (dv (ml S (mf_iv (S ks)) (ks + 1)) ks (kg - ks) G) := rfl
theorem eu_one {kg ks : Nat} {G S : Nat → Nat} (hS1 : S ks = 1) (hk : kg ≤ 17) : ∃ Q : mF → mF, pf 17 Q ∧ ∀ x, hv G x kg 0 = Q x * hv S x (ks + 1) 0 + hv (dv S ks (kg - ks) G) x (trm (dv S ks (kg - ks) G) (min kg ks)) 0 := by
  by_cases h : ks ≤ kg
  · refine ⟨fun x => hv (dv S ks (kg - ks) G) x (kg - ks) ks, (hv_pf _ _ _).mono (by omega), ?_⟩
    intro x
    have h1 := dv_div S ks x (kg - ks) G
    rw [show kg - ks + ks = kg by omega] at h1
    rw [trm_hv, show min kg ks = ks by omega, hv_top, Nat.zero_add, hS1, tf_1, h1]
    grind
  · refine ⟨fun _ => 0, pf_0 17, ?_⟩
    intro x
    rw [trm_hv, show kg - ks = 0 by omega, show min kg ks = kg by omega, dv]
    grind
theorem mF_r1 {i k y1 y2 y3 y4 : mF} (h : i * k = 1) (z1 : y1 = i * y2) (z2 : y1 = y3 * y4) : y2 = y3 * (k * y4) := by
  have e1 : y2 = (i * k) * y2 := by rw [h]; grind
  have e2 : (i * k) * y2 = k * (i * y2) := by grind
  rw [e1, e2, ← z1, z2]
  grind
theorem mF_r2 {i y1 y2 y3 y5 y6 Q s t : mF} (z1 : y1 = i * y2) (z2 : y5 = Q * y1 + y6) (z3 : y3 = s * y1 + t * y6) : y3 = t * y5 + (s - t * Q) * i * y2 := by
  rw [z3, z2, z1]
  grind
theorem eu_main : ∀ (n kg : Nat) (G : Nat → Nat) (ks : Nat) (S : Nat → Nat), lt17 G → lt17 S → 1 ≤ kg → kg ≤ 17 → G (kg - 1) = 1 → ks ≤ 17 → ks ≤ n → (ks = 0 ∨ S (ks - 1) ≠ 0) → ∃ q G', eu n kg G ks S = (q + 1, G') ∧ q ≤ 16 ∧ lt17 G' ∧ G' q = 1 ∧ ∃ a b s t : mF → mF, pf (18 * n + 1) a ∧ pf (18 * n + 1) b ∧ pf (18 * n + 1) s ∧ pf (18 * n + 1) t ∧ (∀ x, hv G x kg 0 = hv G' x (q + 1) 0 * a x) ∧ (∀ x, hv S x ks 0 = hv G' x (q + 1) 0 * b x) ∧ ∀ x, hv G' x (q + 1) 0 = s x * hv G x kg 0 + t x * hv S x ks 0
  | n, kg, G, 0, S, hG, hS, h1, h2, h3, _, _, _ => by
    refine ⟨kg - 1, G, ?_, by omega, hG, h3, fun _ => 1, fun _ => 0, fun _ => 1, fun _ => 0, (pf_c 1).mono (by omega), pf_0 _, (pf_c 1).mono (by omega), pf_0 _, ?_, ?_, ?_⟩
    · rw [eu_0, show kg - 1 + 1 = kg by omega]
    · intro x
      rw [show kg - 1 + 1 = kg by omega]
      grind
    · intro x
      rw [hv_0]
      grind
    · intro x
      rw [show kg - 1 + 1 = kg by omega]
      grind
  | 0, kg, G, ks + 1, S, _, _, _, _, _, _, h, _ => by omega
  | n + 1, kg, G, ks + 1, S, hG, hS, h1, h2, h3, h4, h5, h6 => by
    have hS0 : S ks ≠ 0 := by
      rcases h6 with z | z
      · omega
      · rw [show ks + 1 - 1 = ks by omega] at z
        exact z
    have hSl : S ks < 2147483647 := hS ks (by omega)
    have hiv := tf_iv hSl hS0
    have hS1 := ml_one hSl hS0
    have hm := fun x => ml_hv S (mf_iv (S ks)) x (ks + 1)
    have hS' : lt17 (ml S (mf_iv (S ks)) (ks + 1)) := ml_17 hS _ _
    rw [eu_s]
    generalize ml S (mf_iv (S ks)) (ks + 1) = S1 at *
    obtain ⟨Q, hQ, hq⟩ := eu_one (G := G) hS1 h2
    have hD : lt17 (dv S1 ks (kg - ks) G) := dv_17 _ hG
    have htl := trm_le (dv S1 ks (kg - ks) G) (min kg ks)
    obtain ⟨q, G', c1, c2, c3, c4, a, b, s, t, pa, pb, ps, pt, ea, eb, eg⟩ := eu_main n (ks + 1) S1 (trm (dv S1 ks (kg - ks) G) (min kg ks)) (dv S1 ks (kg - ks) G) hS' hD (by omega) (by omega) (by rw [show ks + 1 - 1 = ks by omega]; exact hS1) (by omega) (by omega) (trm_top _ _)
    refine ⟨q, G', c1, c2, c3, c4, fun x => Q x * a x + b x, fun x => tf (S ks) * a x, t, fun x => (s x - t x * Q x) * tf (mf_iv (S ks)), ?_, ?_, pt.mono (by omega), ?_, ?_, ?_, ?_⟩
    · exact ((hQ.mul pa).mono (by omega)).add (pb.mono (by omega))
    · exact (pa.sc _).mono (by omega)
    · exact ((((ps.mono (show 18 * n + 1 ≤ 18 * n + 1 + 17 by omega)).sub (pt.mul hQ)).sc (tf (mf_iv (S ks)))).mono (by omega)).congr (fun x => by grind)
    · intro x
      rw [hq x, ea x, eb x]
      grind
    · intro x
      have z1 := hm x
      have z2 := ea x
      generalize tf (mf_iv (S ks)) = i at *
      generalize tf (S ks) = k at *
      generalize hv S1 x (ks + 1) 0 = y1 at *
      generalize hv S x (ks + 1) 0 = y2 at *
      generalize hv G' x (q + 1) 0 = y3 at *
      exact mF_r1 hiv z1 z2
    · intro x
      have z1 := hm x
      have z2 := hq x
      have z3 := eg x
      generalize tf (mf_iv (S ks)) = i at *
      generalize hv S1 x (ks + 1) 0 = y1 at *
      generalize hv S x (ks + 1) 0 = y2 at *
      generalize hv G x kg 0 = y5 at *
      generalize hv G' x (q + 1) 0 = y3 at *
      generalize hv (dv S1 ks (kg - ks) G) x (trm (dv S1 ks (kg - ks) G) (min kg ks)) 0 = y6 at *
      exact mF_r2 z1 z2 z3
/-- what is left over when the divisor goes up is nothing, and the quotient is the one there is -/
theorem quo {u q : Nat} {U G : Nat → Nat} {a : mF → mF} (hu : u ≤ 16) (hqu : q ≤ u) (hG : G q = 1) (hp : pf 1000 a) (ha : ∀ x, hv U x (u + 1) 0 = hv G x (q + 1) 0 * a x) : ∀ x, a x = hv (dv G q (u + 1 - q) U) x (u + 1 - q) q := by
  have hc : pf 17 (fun x => hv (dv G q (u + 1 - q) U) x (u + 1 - q) q) := (hv_pf _ _ _).mono (by omega)
  have hg : lc q 1 (fun x => hv G x (q + 1) 0) := by
    have := hv_lc G q
    rw [hG, tf_1] at this
    exact this
  have hr : ∀ x, hv G x (q + 1) 0 * (a x - hv (dv G q (u + 1 - q) U) x (u + 1 - q) q) = hv (dv G q (u + 1 - q) U) x q 0 := by
    intro x
    have h1 := dv_div G q x (u + 1 - q) U
    rw [show u + 1 - q + q = u + 1 by omega, ha x] at h1
    have h2 := hv_top G x q 0
    rw [Nat.zero_add, hG, tf_1] at h2
    have h3 : hv G x q 0 + x ^ q = hv G x (q + 1) 0 := by rw [h2]; grind
    rw [h3] at h1
    grind
  have hd : pf 1000 (fun x => a x - hv (dv G q (u + 1 - q) U) x (u + 1 - q) q) := hp.sub (hc.mono (by omega))
  rcases hd.lead with z | ⟨e, c, h1, h2, h3⟩
  · intro x
    have := z x
    grind
  · exfalso
    have h4 := (hg.mul h3).congr hr
    have h5 : pf (q + e) (fun x => hv (dv G q (u + 1 - q) U) x q 0) := (hv_pf _ _ _).mono (by omega)
    exact mF_mne mF_10 h2 (lc_hi (by omega) h4 h5)
theorem shd_at (A : Nat → Nat) (q : Nat) : ∀ n i, shd A q n i = if i < n then A (i + q) else A i
  | 0, i => by rw [shd, if_neg (by omega)]
  | n + 1, i => by
    rw [shd]
    by_cases hi : i = n
    · subst hi
      rw [updN_s, shd_at A q i, if_neg (by omega), if_pos (by omega)]
    · rw [updN_n _ _ hi, shd_at A q n i]
      by_cases h : i < n
      · rw [if_pos h, if_pos (by omega)]
      · rw [if_neg h, if_neg (by omega)]
/-- the quotient's own factors -/
theorem quo_shd {u q : Nat} (U G : Nat → Nat) (hqu : q ≤ u) (x : mF) : hv (shd (dv G q (u + 1 - q) U) q (u - q + 1)) x (u - q + 1) 0 = hv (dv G q (u + 1 - q) U) x (u + 1 - q) q := by
  rw [show u - q + 1 = u + 1 - q by omega]
  have h1 := hv_sh (dv G q (u + 1 - q) U) x q (u + 1 - q) 0
  rw [Nat.zero_add] at h1
  rw [← h1]
  apply hv_cg
  intro i _ hi
  rw [shd_at, if_pos (by omega)]
/-- a divisor has no higher degree -/
theorem dg_le {u q : Nat} {U G : Nat → Nat} {a : mF → mF} (hu : u ≤ 16) (hq : q ≤ 16) (hU : U u = 1) (hG : G q = 1) (hp : pf 1000 a) (ha : ∀ x, hv U x (u + 1) 0 = hv G x (q + 1) 0 * a x) : q ≤ u := by
  have hU1 := hv_lc U u
  have hG1 := hv_lc G q
  rw [hU, tf_1] at hU1
  rw [hG, tf_1] at hG1
  rcases hp.lead with z | ⟨e, c, h1, h2, h3⟩
  · exfalso
    refine lc_ne (by omega) hU1 mF_10 ?_
    intro x
    show hv U x (u + 1) 0 = 0
    rw [ha x, z x]
    grind
  · have h4 := (hG1.mul h3).congr (fun x => (ha x).symm)
    have := (lc_uq (by omega) (by omega) hU1 mF_10 h4 (mF_mne mF_10 h2)).1
    omega
theorem eu_lawp : eu_law := by
  intro u l U W hu hl hU hW hU1 hW1
  obtain ⟨q, G', c1, c2, c3, c4, a, b, s, t, pa, pb, ps, pt, ea, eb, eg⟩ := eu_main 17 (u + 1) U (l + 1) W hU hW (by omega) (by omega) (by rw [show u + 1 - 1 = u by omega]; exact hU1) (by omega) (by omega) (Or.inr (by rw [show l + 1 - 1 = l by omega, hW1]; decide))
  exact ⟨q, G', c1, dg_le hu c2 hU1 c4 (pa.mono (by omega)) ea, dg_le hl c2 hW1 c4 (pb.mono (by omega)) eb⟩
/-- the fraction of the two quotients is reduced -/
theorem rdF_of {U W g u w a b s t : mF → mF} {du dw dg : Nat} (h1 : du ≤ 100) (h2 : dw ≤ 100) (h3 : dg ≤ 100) (hu : lc du 1 u) (hw : lc dw 1 w) (hg : lc dg 1 g) (ha : ∀ x, U x = g x * a x) (hb : ∀ x, W x = g x * b x) (hau : ∀ x, a x = u x) (hbw : ∀ x, b x = w x) (hs : pf 400 s) (ht : pf 400 t) (hst : ∀ x, g x = s x * U x + t x * W x) : rdF U W du u dw w := by
  refine ⟨h1, h2, hu, hw, g, dg, h3, hg, fun x => by rw [ha, hau], fun x => by rw [hb, hbw], s, t, hs.mono (by omega), ht.mono (by omega), ?_⟩
  have hp : pf 501 (fun x => s x * u x + t x * w x - 1) :=
    (((hs.mul hu.pn).mono (by omega)).add ((ht.mul hw.pn).mono (by omega))).sub ((pf_c 1).mono (by omega))
  have hz := pf_dom hg mF_10 hp (by omega) (by
    intro x
    try dsimp only
    have z := hst x
    rw [ha, hb, hau, hbw] at z
    generalize g x = g1 at *
    grind)
  intro x
  have := hz x
  grind
theorem rdY_ok {u l u' l' : Nat} {U W U' W' : Nat → Nat} (hu : u ≤ 16) (hl : l ≤ 16) (hU : lt17 U) (hW : lt17 W) (hU1 : U u = 1) (hW1 : W l = 1) (h : rdY u U l W u' U' l' W') : rdF (fun x => hv U x (u + 1) 0) (fun x => hv W x (l + 1) 0) u' (fun x => hv U' x (u' + 1) 0) l' (fun x => hv W' x (l' + 1) 0) ∧ u' ≤ u ∧ l' ≤ l ∧ lt17 U' ∧ lt17 W' := by
  obtain ⟨G0, S0, q, G, hG0, hS0, he, hqu, hql, rfl, rfl, rfl, rfl⟩ := h
  have hGl : lt17 G0 := fun i hi => by rw [hG0 i hi]; exact hU i hi
  have hSl : lt17 S0 := fun i hi => by rw [hS0 i hi]; exact hW i hi
  obtain ⟨q2, G2, c1, c2, c3, c4, a, b, s, t, pa, pb, ps, pt, ea, eb, eg⟩ := eu_main 17 (u + 1) G0 (l + 1) S0 hGl hSl (by omega) (by omega) (by rw [show u + 1 - 1 = u by omega, hG0 u (by omega)]; exact hU1) (by omega) (by omega) (Or.inr (by rw [show l + 1 - 1 = l by omega, hS0 l (by omega), hW1]; decide))
  rw [he] at c1
  have hq2 : q2 = q := by
    have := congrArg Prod.fst c1
    simp only at this
    omega
  have hG2 : G2 = G := (congrArg Prod.snd c1).symm
  subst hq2
  subst hG2
  have eU : ∀ x, hv G0 x (u + 1) 0 = hv U x (u + 1) 0 := fun x => hv_cg x _ _ (fun i _ hi => by rw [hG0 i (by omega)])
  have eW : ∀ x, hv S0 x (l + 1) 0 = hv W x (l + 1) 0 := fun x => hv_cg x _ _ (fun i _ hi => by rw [hS0 i (by omega)])
  have ea' : ∀ x, hv U x (u + 1) 0 = hv G2 x (q2 + 1) 0 * a x := fun x => by rw [← eU, ea]
  have eb' : ∀ x, hv W x (l + 1) 0 = hv G2 x (q2 + 1) 0 * b x := fun x => by rw [← eW, eb]
  have qa := quo hu hqu c4 (pa.mono (by omega)) ea'
  have qb := quo hl hql c4 (pb.mono (by omega)) eb'
  have hg : lc q2 1 (fun x => hv G2 x (q2 + 1) 0) := by
    have := hv_lc G2 q2
    rw [c4, tf_1] at this
    exact this
  have tU : shd (dv G2 q2 (u + 1 - q2) U) q2 (u - q2 + 1) (u - q2) = 1 := by
    rw [shd_at, if_pos (by omega), dv_ge _ _ _ _ _ (by omega), show u - q2 + q2 = u by omega, hU1]
  have tW : shd (dv G2 q2 (l + 1 - q2) W) q2 (l - q2 + 1) (l - q2) = 1 := by
    rw [shd_at, if_pos (by omega), dv_ge _ _ _ _ _ (by omega), show l - q2 + q2 = l by omega, hW1]
  have lU := hv_lc (shd (dv G2 q2 (u + 1 - q2) U) q2 (u - q2 + 1)) (u - q2)
  have lW := hv_lc (shd (dv G2 q2 (l + 1 - q2) W) q2 (l - q2 + 1)) (l - q2)
  rw [tU, tf_1] at lU
  rw [tW, tf_1] at lW
  refine ⟨rdF_of (by omega) (by omega) (by omega) lU lW hg ea' eb' (fun x => by rw [quo_shd U G2 hqu, qa]) (fun x => by rw [quo_shd W G2 hql, qb]) (ps.mono (by omega)) (pt.mono (by omega)) (fun x => by rw [eg x, eU, eW]), by omega, by omega, shd_17 (dv_17 _ hU) _ _ (by omega), shd_17 (dv_17 _ hW) _ _ (by omega)⟩
