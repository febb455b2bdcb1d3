/-! the sieve's law: its rows fit, and all that fits lies in their span -/
def spp (u l : Nat) (v : Nat → mF) : Prop := (∀ i, u < i → i < 17 → v i = 0) ∧ ∀ i, 17 + l < i → i < 34 → v i = 0
def fitv (SA SB : Nat → Nat) (u l K : Nat) (v : Nat → mF) : Prop := ∀ j, j < K → fi v u l (tf (1073741824 + j)) (tf (SA j)) (tf (SB j)) = 0
def sI (SA SB : Nat → Nat) (u l K : Nat) (A : Nat → Nat) (k : Nat) : Prop := ltS A ∧ (∀ r, r < k → fitv SA SB u l K (row A r)) ∧ ∀ v, spp u l v → fitv SA SB u l K v → spn (row A) k v
theorem apA_lt {A : Nat → Nat} {u l : Nat} (hA : ltS A) (hul : u + l ≤ 16) : ltS (apA A u l) := by
  have h1 : ∀ n (B : Nat → Nat), ltS B → ltS (z0A B n) := by
    intro n B hB j hj
    rw [z0A_at]
    by_cases h : j < n
    · rw [if_pos h]
      decide
    · rw [if_neg h]
      exact hB j hj
  have h2 : ∀ n (B : Nat → Nat), ltS B → ltS (o1A B n) := by
    intro n B hB
    induction n with
    | zero => exact hB
    | succ n ih =>
      intro j hj
      rw [o1A]
      by_cases h : j = 34 * n + n
      · rw [h, updN_s]
        decide
      · rw [updN_n _ _ h]
        exact ih j hj
  have h3 : ∀ n (B : Nat → Nat), ltS B → ltS (o2A B u n) := by
    intro n B hB
    induction n with
    | zero => exact hB
    | succ n ih =>
      intro j hj
      rw [o2A]
      by_cases h : j = 34 * (u + 1 + n) + 17 + n
      · rw [h, updN_s]
        decide
      · rw [updN_n _ _ h]
        exact ih j hj
  exact h3 _ _ (h2 _ _ (h1 _ _ hA))
theorem sI_0 {SA SB A : Nat → Nat} {u l : Nat} (hA : ltS A) (hul : u + l ≤ 16) : sI SA SB u l 0 (apA A u l) (u + l + 2) := by
  refine ⟨apA_lt hA hul, fun r _ j hj => absurd hj (Nat.not_lt_zero j), ?_⟩
  intro v hv0 _
  refine ⟨fun r => if r ≤ u then v r else v (17 + (r - (u + 1))), ?_⟩
  intro i hi
  have hrow : ∀ r, r < u + l + 2 → row (apA A u l) r i = if (if r ≤ u then i = r else i = 17 + (r - (u + 1))) then 1 else 0 := by
    intro r hr
    show tf (apA A u l (34 * r + i)) = _
    rw [apA_row A hul hr hi]
    by_cases h : (if r ≤ u then i = r else i = 17 + (r - (u + 1)))
    · rw [if_pos h, if_pos h, tf_1]
    · rw [if_neg h, if_neg h, tf_0]
  by_cases h1 : i ≤ u
  · rw [sg_one (j := i) (u + l + 2) (by omega) (by
      intro r hr hne
      rw [hrow r hr, if_neg (by
        by_cases h : r ≤ u
        · rw [if_pos h]
          omega
        · rw [if_neg h]
          omega)]
      grind)]
    rw [hrow i (by omega), if_pos (by rw [if_pos h1])]
    dsimp only
    rw [if_pos h1]
    grind
  · by_cases h2 : 17 ≤ i ∧ i ≤ 17 + l
    · rw [sg_one (j := u + 1 + (i - 17)) (u + l + 2) (by omega) (by
        intro r hr hne
        rw [hrow r hr, if_neg (by
          by_cases h : r ≤ u
          · rw [if_pos h]
            omega
          · rw [if_neg h]
            omega)]
        grind)]
      rw [hrow _ (by omega), if_pos (by rw [if_neg (by omega)]; omega)]
      dsimp only
      rw [if_neg (by omega), show 17 + (u + 1 + (i - 17) - (u + 1)) = i by omega]
      grind
    · rw [sg_z (u + l + 2) (by
        intro r hr
        rw [hrow r hr, if_neg (by
          by_cases h : r ≤ u
          · rw [if_pos h]
            omega
          · rw [if_neg h]
            omega)]
        grind)]
      by_cases h3 : i < 17
      · exact hv0.1 i (by omega) h3
      · exact hv0.2 i (by omega) hi
theorem pvO_n (A : Nat → Nat) (u l x a b : Nat) : ∀ n, pvO A u l x a b n = none → ∀ r, r < n → siV A u l x a b r = 0
  | 0, _, r, hr => absurd hr (Nat.not_lt_zero r)
  | n + 1, h, r, hr => by
    rw [pvO] at h
    by_cases h0 : siV A u l x a b n = 0
    · rw [if_pos h0] at h
      by_cases hn : r = n
      · rw [hn]
        exact h0
      · exact pvO_n A u l x a b n h r (by omega)
    · rw [if_neg h0] at h
      exact absurd h (by simp)
theorem fi_row {u l : Nat} {v w y : Nat → mF} (hu : u ≤ 16) (hl : l ≤ 16) (m x a b : mF) (h : ∀ i, i < 34 → v i = w i - m * y i) : fi v u l x a b = fi w u l x a b - m * fi y u l x a b := by
  rw [fi_cg hu hl x a b h, fi_lin]
theorem sI_sift {SA SB V A : Nat → Nat} {u l K k : Nat} (hul : u + l ≤ 16) (hk : k ≤ 18) (h : sI SA SB u l K A k) : sI SA SB u l (K + 1) (sfA V A u l k (1073741824 + K) (SA K) (SB K)) (sfK A u l k (1073741824 + K) (SA K) (SB K)) ∧ k ≤ sfK A u l k (1073741824 + K) (SA K) (SB K) + 1 ∧ sfK A u l k (1073741824 + K) (SA K) (SB K) ≤ k := by
  obtain ⟨h1, h2, h3⟩ := h
  unfold sfA sfK
  cases hp : pvO A u l (1073741824 + K) (SA K) (SB K) k with
  | none =>
    refine ⟨⟨h1, ?_, ?_⟩, by show k ≤ k + 1; omega, Nat.le_refl k⟩
    · intro r hr j hj
      by_cases hjK : j = K
      · subst hjK
        rw [← siV_fi, pvO_n A u l _ _ _ k hp r hr, tf_0]
      · exact h2 r hr j (by omega)
    · intro v hv0 hv1
      exact h3 v hv0 (fun j hj => hv1 j (by omega))
  | some p =>
    obtain ⟨hpk, hp0⟩ := pvO_lt A u l _ _ _ k p hp
    have hiv := tf_iv (siV_lt A u l (1073741824 + K) (SA K) (SB K) p) hp0
    -- the rows behind the sift
    have hrow : ∀ r, r < k - 1 → ∀ i, i < 34 → row (cpA (siA A (sVA V A u l (1073741824 + K) (SA K) (SB K) k) p (mf_iv (siV A u l (1073741824 + K) (SA K) (SB K) p)) k) p (k - 1) 34) r i = row A (sgm p k r) i - (tf (siV A u l (1073741824 + K) (SA K) (SB K) (sgm p k r)) * tf (mf_iv (siV A u l (1073741824 + K) (SA K) (SB K) p))) * row A p i := by
      intro r hr i hi
      obtain ⟨g1, g2⟩ := sgm_ok hpk hr
      have e : ∀ q, q < k → q ≠ p → tf (siA A (sVA V A u l (1073741824 + K) (SA K) (SB K) k) p (mf_iv (siV A u l (1073741824 + K) (SA K) (SB K) p)) k (34 * q + i)) = row A q i - (tf (siV A u l (1073741824 + K) (SA K) (SB K) q) * tf (mf_iv (siV A u l (1073741824 + K) (SA K) (SB K) p))) * row A p i := by
        intro q z1 z2
        rw [siA_row _ _ _ _ hi, if_pos ⟨z1, z2⟩, tf_min, tf_mod, tf_mul, sVA_at _ _ _ _ _ _ _ _ _ z1]
        rfl
      show tf (cpA _ p (k - 1) 34 (34 * r + i)) = _
      rw [cpA_row _ _ _ hi]
      by_cases hrp : r = p
      · have es : sgm p k r = k - 1 := by rw [sgm, if_pos hrp]
        rw [if_pos hrp, e (k - 1) (by omega) (by omega), es]
      · have es : sgm p k r = r := by rw [sgm, if_neg hrp]
        rw [if_neg hrp, e r (by omega) hrp, es]
    show sI SA SB u l (K + 1) (cpA (siA A (sVA V A u l (1073741824 + K) (SA K) (SB K) k) p (mf_iv (siV A u l (1073741824 + K) (SA K) (SB K) p)) k) p (k - 1) 34) (k - 1) ∧ k ≤ k - 1 + 1 ∧ k - 1 ≤ k
    have hlt : ltS (cpA (siA A (sVA V A u l (1073741824 + K) (SA K) (SB K) k) p (mf_iv (siV A u l (1073741824 + K) (SA K) (SB K) p)) k) p (k - 1) 34) := cpA_lt (siA_lt h1 _ _ _ _) (by omega) (by omega)
    generalize cpA (siA A (sVA V A u l (1073741824 + K) (SA K) (SB K) k) p (mf_iv (siV A u l (1073741824 + K) (SA K) (SB K) p)) k) p (k - 1) 34 = A2 at *
    refine ⟨⟨hlt, ?_, ?_⟩, by omega, by omega⟩
    · intro r hr j hj
      obtain ⟨g1, g2⟩ := sgm_ok hpk hr
      rw [fi_row (by omega) (by omega) _ _ _ _ (hrow r hr)]
      by_cases hjK : j = K
      · subst hjK
        rw [← siV_fi, ← siV_fi]
        generalize tf (siV A u l (1073741824 + j) (SA j) (SB j) p) = y1 at *
        generalize tf (mf_iv (siV A u l (1073741824 + j) (SA j) (SB j) p)) = y2 at *
        generalize tf (siV A u l (1073741824 + j) (SA j) (SB j) (sgm p k r)) = y3 at *
        grind
      · rw [h2 _ g1 j (by omega), h2 p hpk j (by omega)]
        grind
    · intro v hv0 hv1
      obtain ⟨c, hc⟩ := h3 v hv0 (fun j hj => hv1 j (by omega))
      have hfK := hv1 K (by omega)
      rw [fi_cg (by omega) (by omega) _ _ _ hc, fi_sg] at hfK
      refine ⟨fun r => c (sgm p k r), ?_⟩
      intro i hi
      have e1 : sg (fun r => c (sgm p k r) * row A2 r i) (k - 1) = sg (fun r => (fun s => c s * row A s i - (tf (mf_iv (siV A u l (1073741824 + K) (SA K) (SB K) p)) * row A p i) * (c s * fi (row A s) u l (tf (1073741824 + K)) (tf (SA K)) (tf (SB K)))) (sgm p k r)) (k - 1) := by
        apply sg_cg
        intro r hr
        show c (sgm p k r) * row A2 r i = _
        rw [hrow r hr i hi, siV_fi]
        try dsimp only
        generalize row A (sgm p k r) i = y1
        generalize row A p i = y2
        generalize fi (row A (sgm p k r)) u l (tf (1073741824 + K)) (tf (SA K)) (tf (SB K)) = y3
        generalize tf (mf_iv (siV A u l (1073741824 + K) (SA K) (SB K) p)) = y4
        grind
      rw [e1, sg_sgm (fun s => c s * row A s i - (tf (mf_iv (siV A u l (1073741824 + K) (SA K) (SB K) p)) * row A p i) * (c s * fi (row A s) u l (tf (1073741824 + K)) (tf (SA K)) (tf (SB K)))) hpk, sg_lin (fun s => c s * row A s i) (fun s => c s * fi (row A s) u l (tf (1073741824 + K)) (tf (SA K)) (tf (SB K))), hfK, ← hc i hi, ← siV_fi]
      generalize tf (siV A u l (1073741824 + K) (SA K) (SB K) p) = y1 at *
      generalize tf (mf_iv (siV A u l (1073741824 + K) (SA K) (SB K) p)) = y2 at *
      generalize row A p i = y3 at *
      grind
theorem ldF_n (A : Nat → Nat) (c : Nat) : ∀ n j, ldF A c n j = none → ∀ r, j ≤ r → r < j + n → A (34 * r + c) = 0
  | 0, j, _, r, h1, h2 => by omega
  | n + 1, j, h, r, h1, h2 => by
    rw [ldF] at h
    by_cases h0 : A (34 * j + c) = 0
    · rw [if_pos h0] at h
      by_cases hr : r = j
      · rw [hr]
        exact h0
      · exact ldF_n A c n (j + 1) h r (by omega) (by omega)
    · rw [if_neg h0] at h
      exact absurd h (by simp)
/-- behind a lead at c: the last row has 1 there, the others 0; the span is theirs -/
theorem ld_rows {A : Nat → Nat} {c k p : Nat} (hc : c < 34) (hA : ltS A) (hk : k ≤ 18) (hp : p < k) (h0 : A (34 * p + c) ≠ 0) : (∀ i, i < 34 → row (ldA A c k p) (k - 1) i = tf (mf_iv (A (34 * p + c))) * row A p i) ∧ (∀ r, r < k - 1 → ∀ i, i < 34 → row (ldA A c k p) r i = row A (sgm p k r) i - row A (sgm p k r) c * (tf (mf_iv (A (34 * p + c))) * row A p i)) ∧ (∀ r, k ≤ r → ∀ i, i < 34 → row (ldA A c k p) r i = row A r i) ∧ tf (mf_iv (A (34 * p + c))) * row A p c = 1 := by
  have hiv := tf_iv (hA (34 * p + c) (by omega)) h0
  have e1 : ∀ q i, i < 34 → q ≠ p → scA A p (mf_iv (A (34 * p + c))) 34 (34 * q + i) = A (34 * q + i) := fun q i hi hq => by rw [scA_row _ _ _ hi, if_neg hq]
  have e2 : ∀ i, i < 34 → tf (scA A p (mf_iv (A (34 * p + c))) 34 (34 * p + i)) = tf (mf_iv (A (34 * p + c))) * row A p i := by
    intro i hi
    rw [scA_row _ _ _ hi, if_pos rfl, tf_mod, tf_mul]
    show tf (A (34 * p + i)) * _ = _ * tf (A (34 * p + i))
    grind
  have e3 : ∀ q i, i < 34 → q < k → q ≠ p → tf (leA (scA A p (mf_iv (A (34 * p + c))) 34) p c k (34 * q + i)) = row A q i - row A q c * (tf (mf_iv (A (34 * p + c))) * row A p i) := by
    intro q i hi h1 h2
    rw [leA_row _ _ _ hc _ _ _ hi, if_pos ⟨h1, h2⟩, tf_min, e2 i hi, e1 q i hi h2, e1 q c hc h2]
    rfl
  have e4 : ∀ i, i < 34 → tf (leA (scA A p (mf_iv (A (34 * p + c))) 34) p c k (34 * p + i)) = tf (mf_iv (A (34 * p + c))) * row A p i := by
    intro i hi
    rw [leA_row _ _ _ hc _ _ _ hi, if_neg (by omega), e2 i hi]
  refine ⟨?_, ?_, ?_, hiv⟩
  · intro i hi
    show tf (ldA A c k p (34 * (k - 1) + i)) = _
    rw [ldA, swR_row _ _ _ _ _ _ (Nat.le_refl 34) hi, if_pos hi, if_pos rfl, e4 i hi]
  · intro r hr i hi
    show tf (ldA A c k p (34 * r + i)) = _
    rw [ldA, swR_row _ _ _ _ _ _ (Nat.le_refl 34) hi, if_pos hi, if_neg (by omega)]
    by_cases hrp : r = p
    · have es : sgm p k r = k - 1 := by rw [sgm, if_pos hrp]
      rw [if_pos hrp, e3 (k - 1) i hi (by omega) (by omega), es]
    · have es : sgm p k r = r := by rw [sgm, if_neg hrp]
      rw [if_neg hrp, e3 r i hi (by omega) hrp, es]
  · intro r hr i hi
    show tf (ldA A c k p (34 * r + i)) = _
    rw [ldA, swR_row _ _ _ _ _ _ (Nat.le_refl 34) hi, if_pos hi, if_neg (by omega), if_neg (by omega), leA_row _ _ _ hc _ _ _ hi, if_neg (by omega), e1 r i hi (by omega)]
    rfl
theorem ldA_lt {A : Nat → Nat} {c k p : Nat} (hc : c < 34) (hA : ltS A) (hk : k ≤ 18) (hp : p < k) : ltS (ldA A c k p) := by
  intro j hj
  have hL : ltS (leA (scA A p (mf_iv (A (34 * p + c))) 34) p c k) := leA_lt (scA_lt hA _ _ _) _ _ _
  have ej : j = 34 * (j / 34) + j % 34 := by omega
  have hm : j % 34 < 34 := Nat.mod_lt _ (by decide)
  rw [ej, ldA, swR_row _ _ _ _ _ _ (Nat.le_refl 34) hm, if_pos hm]
  by_cases h1 : j / 34 = k - 1
  · rw [if_pos h1]
    exact hL _ (by omega)
  · rw [if_neg h1]
    by_cases h2 : j / 34 = p
    · rw [if_pos h2]
      exact hL _ (by omega)
    · rw [if_neg h2]
      exact hL _ (by omega)
theorem ld_span {A : Nat → Nat} {c k p : Nat} {v : Nat → mF} (hc : c < 34) (hA : ltS A) (hk : k ≤ 18) (hp : p < k) (h0 : A (34 * p + c) ≠ 0) (hs : spn (row A) k v) : ∃ e : Nat → mF, ∀ i, i < 34 → v i = sg (fun r => e r * row (ldA A c k p) r i) (k - 1) + v c * row (ldA A c k p) (k - 1) i := by
  obtain ⟨r1, r2, _, r4⟩ := ld_rows hc hA hk hp h0
  obtain ⟨e, he⟩ := hs
  refine ⟨fun r => e (sgm p k r), ?_⟩
  intro i hi
  have e1 : sg (fun r => e (sgm p k r) * row (ldA A c k p) r i) (k - 1) = sg (fun r => (fun s => e s * row A s i - (tf (mf_iv (A (34 * p + c))) * row A p i) * (e s * row A s c)) (sgm p k r)) (k - 1) := by
    apply sg_cg
    intro r hr
    show e (sgm p k r) * row (ldA A c k p) r i = _
    rw [r2 r hr i hi]
    try dsimp only
    generalize row A (sgm p k r) i = y1
    generalize row A (sgm p k r) c = y2
    generalize row A p i = y3
    generalize tf (mf_iv (A (34 * p + c))) = y4
    grind
  rw [e1, sg_sgm (fun s => e s * row A s i - (tf (mf_iv (A (34 * p + c))) * row A p i) * (e s * row A s c)) hp, sg_lin (fun s => e s * row A s i) (fun s => e s * row A s c), ← he i hi, ← he c hc, r1 i hi]
  generalize row A p i = y1 at *
  generalize row A p c = y2 at *
  generalize tf (mf_iv (A (34 * p + c))) = y3 at *
  grind
/-- the pair chosen lies in row k - 1 of the sieve that this gives -/
def chR (A : Nat → Nat) (u l k : Nat) : Option (Nat → Nat) := match ldF A u k 0 with
  | none => none
  | some p => match ldF (ldA A u k p) (17 + l) (k - 1) 0 with
    | none => if (1 + 2147483647 - ldA A u k p (34 * (k - 1) + (17 + l))) % 2147483647 = 0 then some (ldA A u k p) else none
    | some q => some (tkA (ldA (ldA A u k p) (17 + l) (k - 1) q) (k - 1) (k - 2) ((0 + 2147483647 - (1 + 2147483647 - ldA (ldA A u k p) (17 + l) (k - 1) q (34 * (k - 1) + (17 + l))) % 2147483647) % 2147483647) 34)
theorem sg_row0 {R : Nat → Nat → mF} {e : Nat → mF} {k i : Nat} (h : ∀ r, r < k → R r i = 0) : sg (fun r => e r * R r i) k = 0 := by
  apply sg_z
  intro r hr
  rw [h r hr]
  grind
theorem chR_none {SA SB A : Nat → Nat} {u l K k : Nat} {v : Nat → mF} (hul : u + l ≤ 16) (hk : k ≤ 18) (hk2 : 2 ≤ k) (h : sI SA SB u l K A k) (hn : chR A u l k = none) (hv0 : spp u l v) (hv1 : fitv SA SB u l K v) (hvu : v u = 1) (hvl : v (17 + l) = 1) : False := by
  obtain ⟨h1, h2, h3⟩ := h
  have hs := h3 v hv0 hv1
  rw [chR] at hn
  cases hp : ldF A u k 0 with
  | none =>
    have hz := ldF_n A u k 0 hp
    obtain ⟨e, he⟩ := hs
    have z := he u (by omega)
    rw [sg_row0 (R := row A) (fun r hr => by
      show tf (A (34 * r + u)) = 0
      rw [hz r (by omega) (by omega), tf_0]), hvu] at z
    exact mF_10 z
  | some p =>
    rw [hp] at hn
    obtain ⟨_, hpk, hp0⟩ := ldF_lt A u k 0 p hp
    obtain ⟨e, he⟩ := ld_span (by omega) h1 hk (by omega) hp0 hs
    dsimp only at hn
    cases hq : ldF (ldA A u k p) (17 + l) (k - 1) 0 with
    | some q =>
      rw [hq] at hn
      exact absurd hn (by simp)
    | none =>
      rw [hq] at hn
      dsimp only at hn
      have hz := ldF_n _ (17 + l) (k - 1) 0 hq
      have z := he (17 + l) (by omega)
      rw [sg_row0 (R := row (ldA A u k p)) (fun r hr => by
        show tf (ldA A u k p (34 * r + (17 + l))) = 0
        rw [hz r (by omega) (by omega), tf_0]), hvu, hvl] at z
      have hL := ldA_lt (c := u) (by omega) h1 hk (show p < k by omega) (34 * (k - 1) + (17 + l)) (by omega)
      have z2 : tf (ldA A u k p (34 * (k - 1) + (17 + l))) = tf 1 := by
        show row (ldA A u k p) (k - 1) (17 + l) = _
        rw [tf_1]
        grind
      have z3 := tf_inj hL (by decide) z2
      rw [z3] at hn
      rw [if_pos (by decide)] at hn
      exact absurd hn (by simp)
theorem chR_some {SA SB A C : Nat → Nat} {u l K k : Nat} (hul : u + l ≤ 16) (hk : k ≤ 18) (hk2 : 2 ≤ k) (h : sI SA SB u l K A k) (hC : chR A u l k = some C) : fitv SA SB u l K (row C (k - 1)) ∧ row C (k - 1) u = 1 ∧ row C (k - 1) (17 + l) = 1 ∧ ltS C := by
  obtain ⟨h1, h2, h3⟩ := h
  rw [chR] at hC
  cases hp : ldF A u k 0 with
  | none =>
    rw [hp] at hC
    exact absurd hC (by simp)
  | some p =>
    rw [hp] at hC
    dsimp only at hC
    obtain ⟨_, hpk, hp0⟩ := ldF_lt A u k 0 p hp
    obtain ⟨a1, a2, _, a4⟩ := ld_rows (c := u) (by omega) h1 hk (show p < k by omega) hp0
    have hL := ldA_lt (c := u) (by omega) h1 hk (show p < k by omega)
    -- the rows fit, the last has 1 at u, the others 0
    have f1 : ∀ r, r < k → fitv SA SB u l K (row (ldA A u k p) r) := by
      intro r hr j hj
      by_cases hrl : r = k - 1
      · rw [hrl, fi_row (w := fun _ => 0) (y := row A p) (by omega) (by omega) (- tf (mf_iv (A (34 * p + u)))) _ _ _ (fun i hi => by rw [a1 i hi]; grind), h2 p (by omega) j hj]
        have : fi (fun _ => (0 : mF)) u l (tf (1073741824 + j)) (tf (SA j)) (tf (SB j)) = 0 := by
          have z : ∀ n i, he (fun _ => (0 : mF)) (tf (1073741824 + j)) n i = 0 := by
            intro n
            induction n with
            | zero =>
              intro i
              rfl
            | succ n ih =>
              intro i
              rw [he_s, ih]
              grind
          rw [fi, z, z]
          grind
        rw [this]
        grind
      · obtain ⟨g1, g2⟩ := sgm_ok (p := p) (k := k) (r := r) (by omega) (by omega)
        rw [fi_row (w := row A (sgm p k r)) (y := row A p) (by omega) (by omega) (row A (sgm p k r) u * tf (mf_iv (A (34 * p + u)))) _ _ _ (fun i hi => by rw [a2 r (by omega) i hi]; grind), h2 _ g1 j hj, h2 p (by omega) j hj]
        grind
    have b1 : row (ldA A u k p) (k - 1) u = 1 := by rw [a1 u (by omega), a4]
    have b2 : ∀ r, r < k - 1 → row (ldA A u k p) r u = 0 := by
      intro r hr
      rw [a2 r hr u (by omega), a4]
      grind
    generalize ldA A u k p = A1 at *
    cases hq : ldF A1 (17 + l) (k - 1) 0 with
    | none =>
      rw [hq] at hC
      dsimp only at hC
      have hl1 := hL (34 * (k - 1) + (17 + l)) (by omega)
      by_cases hw : (1 + 2147483647 - A1 (34 * (k - 1) + (17 + l))) % 2147483647 = 0
      · rw [if_pos hw] at hC
        have hCA : A1 = C := Option.some.inj hC
        subst hCA
        refine ⟨f1 (k - 1) (by omega), b1, ?_, hL⟩
        show tf (A1 (34 * (k - 1) + (17 + l))) = 1
        rw [show A1 (34 * (k - 1) + (17 + l)) = 1 by omega, tf_1]
      · rw [if_neg hw] at hC
        exact absurd hC (by simp)
    | some q =>
      rw [hq] at hC
      dsimp only at hC
      obtain ⟨_, hqk, hq0⟩ := ldF_lt A1 (17 + l) (k - 1) 0 q hq
      obtain ⟨c1, c2, c3, c4⟩ := ld_rows (c := 17 + l) (by omega) hL (show k - 1 ≤ 18 by omega) (show q < k - 1 by omega) hq0
      have hL2 := ldA_lt (c := 17 + l) (by omega) hL (show k - 1 ≤ 18 by omega) (show q < k - 1 by omega)
      have d1 : ∀ i, i < 34 → row (ldA A1 (17 + l) (k - 1) q) (k - 1) i = row A1 (k - 1) i := fun i hi => c3 (k - 1) (Nat.le_refl _) i hi
      rw [show k - 1 - 1 = k - 2 by omega] at c1
      have hl2 := hL2 (34 * (k - 1) + (17 + l)) (by omega)
      have hw : tf ((0 + 2147483647 - (1 + 2147483647 - ldA A1 (17 + l) (k - 1) q (34 * (k - 1) + (17 + l))) % 2147483647) % 2147483647) = - (1 - row A1 (k - 1) (17 + l)) := by
        have hm : (1 + 2147483647 - ldA A1 (17 + l) (k - 1) q (34 * (k - 1) + (17 + l))) % 2147483647 < 2147483647 := Nat.mod_lt _ (by decide)
        rw [tf_mod, tf_sub (by omega), tf_mod, tf_sub (by omega), tf_0, tf_1, ← d1 (17 + l) (by omega)]
        show 0 - (1 - tf _) = - (1 - tf (ldA A1 (17 + l) (k - 1) q (34 * (k - 1) + (17 + l))))
        grind
      generalize (0 + 2147483647 - (1 + 2147483647 - ldA A1 (17 + l) (k - 1) q (34 * (k - 1) + (17 + l))) % 2147483647) % 2147483647 = w at *
      generalize hA2 : ldA A1 (17 + l) (k - 1) q = A2 at *
      have hCA : tkA A2 (k - 1) (k - 2) w 34 = C := Option.some.inj hC
      have rC : ∀ i, i < 34 → row C (k - 1) i = row A1 (k - 1) i - (- (1 - row A1 (k - 1) (17 + l)) * tf (mf_iv (A1 (34 * q + (17 + l))))) * row A1 q i := by
        intro i hi
        rw [← hCA]
        show tf (tkA A2 (k - 1) (k - 2) w 34 (34 * (k - 1) + i)) = _
        rw [tkA_row _ _ _ _ hi, if_pos rfl, tf_min, hw]
        have z1 : tf (A2 (34 * (k - 1) + i)) = row A1 (k - 1) i := d1 i hi
        have z2 : tf (A2 (34 * (k - 2) + i)) = tf (mf_iv (A1 (34 * q + (17 + l)))) * row A1 q i := c1 i hi
        rw [z1, z2]
        grind
      refine ⟨?_, ?_, ?_, ?_⟩
      · intro j hj
        rw [fi_row (by omega) (by omega) _ _ _ _ rC, f1 (k - 1) (by omega) j hj, f1 q (by omega) j hj]
        grind
      · rw [rC u (by omega), b1, b2 q (by omega)]
        grind
      · rw [rC (17 + l) (by omega)]
        generalize row A1 (k - 1) (17 + l) = y1 at *
        generalize row A1 q (17 + l) = y2 at *
        generalize tf (mf_iv (A1 (34 * q + (17 + l)))) = y3 at *
        grind
      · rw [← hCA]
        exact tkA_lt hL2 _ _ _ _
/-- all the sifts: values, sieve, pairs -/
def sfS (SA SB : Nat → Nat) (u l : Nat) (V A : Nat → Nat) (k : Nat) : Nat → (Nat → Nat) × (Nat → Nat) × Nat
  | 0 => (V, A, k)
  | j + 1 => (sVA (sfS SA SB u l V A k j).1 (sfS SA SB u l V A k j).2.1 u l (1073741824 + j) (SA j) (SB j) (sfS SA SB u l V A k j).2.2, sfA (sfS SA SB u l V A k j).1 (sfS SA SB u l V A k j).2.1 u l (sfS SA SB u l V A k j).2.2 (1073741824 + j) (SA j) (SB j), sfK (sfS SA SB u l V A k j).2.1 u l (sfS SA SB u l V A k j).2.2 (1073741824 + j) (SA j) (SB j))
theorem sfS_I {SA SB V A : Nat → Nat} {u l : Nat} (hA : ltS A) (hul : u + l ≤ 16) : ∀ j, j ≤ u + l → sI SA SB u l j (sfS SA SB u l V (apA A u l) (u + l + 2) j).2.1 (sfS SA SB u l V (apA A u l) (u + l + 2) j).2.2 ∧ u + l + 2 ≤ (sfS SA SB u l V (apA A u l) (u + l + 2) j).2.2 + j ∧ (sfS SA SB u l V (apA A u l) (u + l + 2) j).2.2 ≤ u + l + 2
  | 0, _ => ⟨sI_0 hA hul, by show u + l + 2 ≤ u + l + 2 + 0; omega, Nat.le_refl _⟩
  | j + 1, hj => by
    obtain ⟨i1, i2, i3⟩ := sfS_I (V := V) (SA := SA) (SB := SB) hA hul j (by omega)
    obtain ⟨k1, k2, k3⟩ := sI_sift (V := (sfS SA SB u l V (apA A u l) (u + l + 2) j).1) hul (by omega) i1
    refine ⟨k1, ?_, ?_⟩
    · show u + l + 2 ≤ sfK _ u l _ _ _ _ + (j + 1)
      omega
    · show sfK _ u l _ _ _ _ ≤ u + l + 2
      omega
/-- a vector of two arrays -/
def tvc (u l : Nat) (U W : Nat → Nat) : Nat → mF := fun i => if i ≤ u then tf (U i) else if 17 ≤ i ∧ i ≤ 17 + l then tf (W (i - 17)) else 0
theorem mF_e3 {a b : mF} (h : a - b = 0) : a = b := by grind
theorem mF_e4 {a b : mF} (h : a = b) : a - b = 0 := by grind
theorem fi_ftn {SA SB U W : Nat → Nat} {u l n : Nat} {v : Nat → mF} (hv0 : ∀ i, i ≤ u → v i = tf (U i)) (hv1 : ∀ i, i ≤ l → v (17 + i) = tf (W i)) : fitv SA SB u l n v ↔ ftn SA SB n u l U W := by
  have e1 : ∀ x, he v x (u + 1) 0 = hv U x (u + 1) 0 := by
    intro x
    have z := he_hv U 0 x (u + 1) 0
    rw [he_cg (w := fun i => tf (U i)) x (u + 1) 0 (fun i _ h2 => hv0 i (by omega))]
    rw [Nat.zero_add] at z
    rw [← z]
    exact hv_cg x _ _ (fun i _ _ => by rw [Nat.zero_add])
  have e2 : ∀ x, he v x (l + 1) 17 = hv W x (l + 1) 0 := by
    intro x
    have z : ∀ n j, j + n ≤ l + 1 → he v x n (17 + j) = hv W x n j := by
      intro n
      induction n with
      | zero =>
        intro j _
        rfl
      | succ n ih =>
        intro j hj
        rw [he_s, hv_s, show 17 + j + 1 = 17 + (j + 1) by omega, ih (j + 1) (by omega), hv1 j (by omega)]
    have z2 := z (l + 1) 0 (by omega)
    exact z2
  constructor
  · intro h k hk
    have z := h k hk
    rw [fi, e1, e2] at z
    exact mF_e3 z
  · intro h k hk
    have z := h k hk
    rw [fi, e1, e2]
    exact mF_e4 z
/-- the reference's equations are solved, or have no solution -/
theorem rf_none {SA SB V A U W : Nat → Nat} {u l : Nat} (hA : ltS A) (hul : u + l ≤ 16) (hn : chR (sfS SA SB u l V (apA A u l) (u + l + 2) (u + l)).2.1 u l (sfS SA SB u l V (apA A u l) (u + l + 2) (u + l)).2.2 = none) (hU : tf (U u) = 1) (hW : tf (W l) = 1) : ¬ ftn SA SB (u + l) u l U W := by
  intro hf
  obtain ⟨i1, i2, i3⟩ := sfS_I (V := V) (SA := SA) (SB := SB) hA hul (u + l) (Nat.le_refl _)
  have t1 : ∀ i, i ≤ u → tvc u l U W i = tf (U i) := fun i hi => by rw [tvc, if_pos hi]
  have t2 : ∀ i, i ≤ l → tvc u l U W (17 + i) = tf (W i) := fun i hi => by rw [tvc, if_neg (by omega), if_pos (by omega), show 17 + i - 17 = i by omega]
  refine chR_none (v := tvc u l U W) hul (by omega) (by omega) i1 hn ⟨?_, ?_⟩ ((fi_ftn t1 t2).mpr hf) ?_ ?_
  · intro i h1 h2
    rw [tvc, if_neg (by omega), if_neg (by omega)]
  · intro i h1 h2
    rw [tvc, if_neg (by omega), if_neg (by omega)]
  · rw [t1 u (Nat.le_refl u), hU]
  · rw [t2 l (Nat.le_refl l), hW]
theorem rf_some {SA SB V A C : Nat → Nat} {u l : Nat} (hA : ltS A) (hul : u + l ≤ 16) (hC : chR (sfS SA SB u l V (apA A u l) (u + l + 2) (u + l)).2.1 u l (sfS SA SB u l V (apA A u l) (u + l + 2) (u + l)).2.2 = some C) : ftn SA SB (u + l) u l (fun i => C (34 * ((sfS SA SB u l V (apA A u l) (u + l + 2) (u + l)).2.2 - 1) + i)) (fun i => C (34 * ((sfS SA SB u l V (apA A u l) (u + l + 2) (u + l)).2.2 - 1) + (17 + i))) ∧ C (34 * ((sfS SA SB u l V (apA A u l) (u + l + 2) (u + l)).2.2 - 1) + u) = 1 ∧ C (34 * ((sfS SA SB u l V (apA A u l) (u + l + 2) (u + l)).2.2 - 1) + (17 + l)) = 1 ∧ ltS C := by
  obtain ⟨i1, i2, i3⟩ := sfS_I (V := V) (SA := SA) (SB := SB) hA hul (u + l) (Nat.le_refl _)
  obtain ⟨c1, c2, c3, c4⟩ := chR_some hul (by omega) (by omega) i1 hC
  refine ⟨(fi_ftn (fun i _ => rfl) (fun i _ => rfl)).mp c1, ?_, ?_, c4⟩
  · exact tf_inj (c4 _ (by omega)) (by decide) (by rw [tf_1]; exact c2)
  · exact tf_inj (c4 _ (by omega)) (by decide) (by rw [tf_1]; exact c3)
