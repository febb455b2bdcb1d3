/-! one reduced fraction for both -/
theorem sq_ne {l : Bk} (hl : gB l) {k : Nat} (hk : k < 18) : ¬ tf (sq l k) = 0 := by
  have key : ∀ i, i ≤ l.length → ¬ tf (smp l (1073741824 + k) i) = 0 := by
    intro i
    induction i with
    | zero =>
      intro _
      rw [smp, tf_1]
      exact mF_10
    | succ i ih =>
      intro hi
      rw [smp, tf_mod, tf_mul]
      refine mF_mne (ih (by omega)) ?_
      have hw := (hl.2.2 i (by omega)).1
      intro z
      have := (tf_eq0 (by omega)).mp z
      omega
  exact key _ (Nat.le_refl _)
def slv (m : Nat) (la lb : Bk) (U W : Nat → Nat) : Prop := la.length ≤ lb.length + m ∧ lb.length ≤ la.length + m ∧ tf (U (uN m la.length lb.length)) = 1 ∧ tf (W (lN2 m la.length lb.length)) = 1 ∧ ftn (sq la) (sq lb) (nN m la.length lb.length) (uN m la.length lb.length) (lN2 m la.length lb.length) U W
theorem slv_uq {m : Nat} {la lb : Bk} {U1 W1 U2 W2 : Nat → Nat} (hm1 : 1 ≤ m) (hm : m ≤ 16) (ha : gB la) (hb : gB lb) (h1 : slv m la lb U1 W1) (h2 : slv m la lb U2 W2) (x : mF) : hv U1 x (uN m la.length lb.length + 1) 0 * hv W2 x (lN2 m la.length lb.length + 1) 0 = hv U2 x (uN m la.length lb.length + 1) 0 * hv W1 x (lN2 m la.length lb.length + 1) 0 := by
  obtain ⟨l1, l2, a1, a2, a3⟩ := h1
  obtain ⟨_, _, b1, b2, b3⟩ := h2
  obtain ⟨n1, _, _, n4, _⟩ := nN_facts l1 l2 hm1
  generalize uN m la.length lb.length = u at *
  generalize lN2 m la.length lb.length = l at *
  generalize nN m la.length lb.length = n at *
  have q1 := hv_lc U1 u
  have q2 := hv_lc W2 l
  have q3 := hv_lc U2 u
  have q4 := hv_lc W1 l
  rw [a1] at q1
  rw [b2] at q2
  rw [b1] at q3
  rw [a2] at q4
  have q5 := q1.mul q2
  have q6 := q3.mul q4
  have hp : pf (u + l) (fun x => hv U1 x (u + 1) 0 * hv W2 x (l + 1) 0 - hv U2 x (u + 1) 0 * hv W1 x (l + 1) 0) :=
    pf.congr (pf.sub q5 q6) (fun x => by grind)
  have hz := hp.roots (a := 1073741824) (n := n) (by omega) (by omega) (by
    intro k hk
    have z1 := a3 k hk
    have z2 := b3 k hk
    have sa := sq_ne ha (k := k) (by omega)
    have sb := sq_ne hb (k := k) (by omega)
    try dsimp only
    generalize tf (sq la k) = a at *
    generalize tf (sq lb k) = b at *
    generalize hv U1 (tf (1073741824 + k)) (u + 1) 0 = y1 at *
    generalize hv U2 (tf (1073741824 + k)) (u + 1) 0 = y2 at *
    generalize hv W1 (tf (1073741824 + k)) (l + 1) 0 = y3 at *
    generalize hv W2 (tf (1073741824 + k)) (l + 1) 0 = y4 at *
    have e : (a * b) * (y1 * y4 - y2 * y3) = 0 := by
      have e1 : (a * b) * (y1 * y4 - y2 * y3) = (y1 * b) * (y4 * a) - (y2 * b) * (y3 * a) := by grind
      rw [e1, z1, z2]
      grind
    rcases mF_mul0 e with z | z
    · exact absurd z (mF_mne sa sb)
    · exact z) x
  try dsimp only at hz
  grind
def gdO (m : Nat) (la lb : Bk) (r : Nat × (Nat → Nat) × Nat × (Nat → Nat)) : Prop := ∃ U W, slv m la lb U W ∧ r.1 ≤ 16 ∧ r.2.2.1 ≤ 16 ∧ (∀ i, i ≤ r.1 → r.2.1 i < 2147483647) ∧ (∀ i, i ≤ r.2.2.1 → r.2.2.2 i < 2147483647) ∧ rdF (fun x => hv U x (uN m la.length lb.length + 1) 0) (fun x => hv W x (lN2 m la.length lb.length + 1) 0) r.1 (fun x => hv r.2.1 x (r.1 + 1) 0) r.2.2.1 (fun x => hv r.2.2.2 x (r.2.2.1 + 1) 0)
noncomputable def oO : exT := fun m la lb => @dite _ (∃ r, gdO m la lb r) (Classical.propDecidable _) (fun h => some (Classical.choose h)) (fun _ => none)
theorem oO_none {m : Nat} {la lb : Bk} (h : ∀ U W, ¬ slv m la lb U W) : oO m la lb = none := by
  unfold oO
  apply dif_neg
  intro z
  obtain ⟨r, U, W, hs, _⟩ := z
  exact h U W hs
theorem oO_some {m : Nat} {la lb : Bk} {u l : Nat} {U W : Nat → Nat} (hm1 : 1 ≤ m) (hm : m ≤ 16) (ha : gB la) (hb : gB lb) (h : gdO m la lb (u, U, l, W)) : ∃ U' W' : Nat → Nat, oO m la lb = some (u, U', l, W') ∧ (∀ i, i ≤ u → U i = U' i) ∧ (∀ i, i ≤ l → W i = W' i) := by
  have hex : ∃ r, gdO m la lb r := ⟨_, h⟩
  have hO : oO m la lb = some (Classical.choose hex) := by
    unfold oO
    exact dif_pos hex
  have hr := Classical.choose_spec hex
  generalize Classical.choose hex = r at *
  obtain ⟨u2, U2, l2, W2⟩ := r
  obtain ⟨P1, Q1, s1, c1, c2, c3, c4, f1⟩ := h
  obtain ⟨P2, Q2, s2, d1, d2, d3, d4, f2⟩ := hr
  dsimp only at *
  obtain ⟨e1, e2, e3, e4⟩ := rdF_uq f1 f2 (slv_uq hm1 hm ha hb s1 s2)
  subst e1
  subst e2
  refine ⟨U2, W2, hO, ?_, ?_⟩
  · intro i hi
    exact tf_inj (c3 i hi) (d3 i hi) (hv_coef (u + 1) (by omega) e3 i (by omega))
  · intro i hi
    exact tf_inj (c4 i hi) (d4 i hi) (hv_coef (l + 1) (by omega) e4 i (by omega))
theorem bs_17 {A : Nat → Nat} {M : Nat → Nat → Nat} {uk : Nat → Option Nat} {c fs : Nat} (hA : lt17 A) (hM : ∀ i, i < 16 → lt17 (M i)) (hc : c < 17) (huk : ∀ i r, i < 16 → uk i = some r → r < 16) : ∀ n, fs + n ≤ 16 → lt17 (bs A M uk c fs n)
  | 0, _ => hA
  | n + 1, h => (bs_17 hA hM hc huk n (by omega)).up _ (unk_lt hM hc (by omega) huk)
theorem ftn_cg {SA SB SA' SB' U W : Nat → Nat} {n u l : Nat} (h1 : ∀ k, k < n → SA k = SA' k) (h2 : ∀ k, k < n → SB k = SB' k) (h : ftn SA SB n u l U W) : ftn SA' SB' n u l U W := by
  intro k hk
  rw [← h1 k hk, ← h2 k hk]
  exact h k hk
theorem clOk_oO : clOk oO := by
  intro m la lb hm1 hm ha hb
  constructor
  · intro hN
    apply oO_none
    intro U W hs
    obtain ⟨l1, l2, a1, a2, a3⟩ := hs
    obtain ⟨n1, _, _, n4, _⟩ := nN_facts l1 l2 hm1
    rcases hN with z | ⟨_, _, M, uk, SA, SB, hM, hSA, hSB, hok⟩
    · omega
    · refine fd_none (U := U) (W := W) (by omega) n4 hM (tk_18 hSA la (m + 2)) (tk_18 hSB lb (m + 2)) hok a1 a2 ?_
      exact ftn_cg (fun k hk => by rw [tk_at _ _ _ _ (by omega)]; rfl) (fun k hk => by rw [tk_at _ _ _ _ (by omega)]; rfl) a3
  · intro u U l W hY
    obtain ⟨U0, W0, ⟨l1, l2, M, uk, SA, SB, A0, C0, hM, hSA, hSB, hA0, hC0, hok, eU, eW⟩, hrd⟩ := hY
    obtain ⟨n1, _, _, n4, _⟩ := nN_facts l1 l2 hm1
    have hB18 := tk_18 hSB lb (m + 2)
    have hI := gj_I (uk := uk) (c := nN m la.length lb.length) (by omega) (sM_17 (SA := tk SA la (m + 2)) (SB := tk SB lb (m + 2)) (u := uN m la.length lb.length) (l := lN2 m la.length lb.length) (n := nN m la.length lb.length) hM hB18 (by omega)) _ (Nat.le_refl _)
    have huk := gj_uk (c := nN m la.length lb.length) (by omega) (sM M (tk SA la (m + 2)) (tk SB lb (m + 2)) (uN m la.length lb.length) (lN2 m la.length lb.length) (nN m la.length lb.length)) uk _ (Nat.le_refl _)
    have hM2 := hI.2.2.2.2.2.1
    have hf := fd_sound (A0 := A0) (C0 := C0) (by omega) n4 hM (tk_18 hSA la (m + 2)) hB18 hok
    have hU17 : lt17 U0 := by
      rw [eU]
      exact (bs_17 hA0 hM2 (by omega) huk _ (by omega)).up _ (by decide)
    have hW17 : lt17 W0 := by
      rw [eW]
      exact (bs_17 hC0 hM2 (by omega) huk _ (by omega)).up _ (by decide)
    have hU1 : U0 (uN m la.length lb.length) = 1 := by rw [eU, fdP, updN_s]
    have hW1 : W0 (lN2 m la.length lb.length) = 1 := by rw [eW, fdP, updN_s]
    have hs : slv m la lb U0 W0 := by
      refine ⟨l1, l2, by rw [hU1, tf_1], by rw [hW1, tf_1], ?_⟩
      rw [eU, eW]
      exact ftn_cg (fun k hk => by rw [tk_at _ _ _ _ (by omega)]; rfl) (fun k hk => by rw [tk_at _ _ _ _ (by omega)]; rfl) hf
    obtain ⟨r1, r2, r3, r4, r5⟩ := rdY_ok (by omega) (by omega) hU17 hW17 hU1 hW1 hrd
    exact oO_some hm1 hm ha hb ⟨U0, W0, hs, by show u ≤ 16; omega, by show l ≤ 16; omega, fun i hi => r4 i (by have : i ≤ u := hi; omega), fun i hi => r5 i (by have : i ≤ l := hi; omega), r1⟩
/-! the reference finds the same -/
theorem rf_no {m : Nat} {la lb : Bk} {V A : Nat → Nat} (hm1 : 1 ≤ m) (hm : m ≤ 16) (l1 : la.length ≤ lb.length + m) (l2 : lb.length ≤ la.length + m) (hA : ltS A) (hn : chR (sfS (sq la) (sq lb) (uN m la.length lb.length) (lN2 m la.length lb.length) V (apA A (uN m la.length lb.length) (lN2 m la.length lb.length)) (uN m la.length lb.length + lN2 m la.length lb.length + 2) (uN m la.length lb.length + lN2 m la.length lb.length)).2.1 (uN m la.length lb.length) (lN2 m la.length lb.length) (sfS (sq la) (sq lb) (uN m la.length lb.length) (lN2 m la.length lb.length) V (apA A (uN m la.length lb.length) (lN2 m la.length lb.length)) (uN m la.length lb.length + lN2 m la.length lb.length + 2) (uN m la.length lb.length + lN2 m la.length lb.length)).2.2 = none) : oO m la lb = none := by
  obtain ⟨n1, _, _, n4, _⟩ := nN_facts l1 l2 hm1
  apply oO_none
  intro U W hs
  obtain ⟨_, _, a1, a2, a3⟩ := hs
  rw [← n4] at a3
  exact rf_none hA (by omega) hn a1 a2 a3
theorem rf_far {m : Nat} {la lb : Bk} (h : lb.length + m < la.length ∨ la.length + m < lb.length) : oO m la lb = none := by
  apply oO_none
  intro U W hs
  obtain ⟨l1, l2, _⟩ := hs
  omega
theorem rf_yes {m : Nat} {la lb : Bk} {V A C Ua Wa O N T : Nat → Nat} {u l k : Nat} (hm1 : 1 ≤ m) (hm : m ≤ 16) (ha : gB la) (hb : gB lb) (l1 : la.length ≤ lb.length + m) (l2 : lb.length ≤ la.length + m) (hA : ltS A) (eu : u = uN m la.length lb.length) (el : l = lN2 m la.length lb.length) (ek : k = (sfS (sq la) (sq lb) u l V (apA A u l) (u + l + 2) (u + l)).2.2) (hC : chR (sfS (sq la) (sq lb) u l V (apA A u l) (u + l + 2) (u + l)).2.1 u l k = some C) (hUa : ∀ i, i ≤ u → Ua i = C (34 * (k - 1) + i)) (hWa : ∀ i, i ≤ l → Wa i = C (34 * (k - 1) + (17 + i))) (hU : lt17 Ua) (hW : lt17 Wa) (hT : lt17 T) (hO : ∀ i, i < 17 → O i = pd u Ua i) (hN : ∀ i, i < 17 → N i = pd l Wa i) : Wa l = 1 ∧ ∃ q G, ceu (l + 1) u O l N T = (q, G) ∧ q ≤ u ∧ q ≤ l ∧ lt17 G ∧ G q = 1 ∧ ∀ O1 T1 N1 T2 : Nat → Nat, (∀ i, i < 17 → O1 i = pd u Ua i) → (∀ i, i < 17 → N1 i = pd l Wa i) → lt17 T1 → lt17 T2 → ∃ U' W' : Nat → Nat, oO m la lb = some (u - q, U', l - q, W') ∧ (∀ i, i ≤ u - q → (rdv G q (u + 1 - q) (O1, T1)).2 i = U' i) ∧ ∀ i, i ≤ l - q → (rdv G q (l + 1 - q) (N1, T2)).2 i = W' i := by
  obtain ⟨n1, _, _, n4, _⟩ := nN_facts l1 l2 hm1
  subst ek
  obtain ⟨c1, c2, c3, c4⟩ := rf_some hA (by omega) hC
  have hU1 : Ua u = 1 := by rw [hUa u (Nat.le_refl u)]; exact c2
  have hW1 : Wa l = 1 := by rw [hWa l (Nat.le_refl l)]; exact c3
  obtain ⟨q, G, g1, g2, g3, g4, g5, g6⟩ := ccR_ok (by omega) (by omega) hU hW hT hU1 hW1 hO hN
  refine ⟨hW1, q, G, g1, g2, g3, g4, g5, ?_⟩
  intro O1 T1 N1 T2 hO1 hN1 hT1 hT2
  have hs : slv m la lb Ua Wa := by
    refine ⟨l1, l2, by rw [← eu, hU1, tf_1], by rw [← el, hW1, tf_1], ?_⟩
    rw [← n4, ← eu, ← el]
    intro j hj
    have z := c1 j hj
    rw [hv_cg (A := Ua) (B := fun i => C (34 * ((sfS (sq la) (sq lb) u l V (apA A u l) (u + l + 2) (u + l)).2.2 - 1) + i)) _ (u + 1) 0 (fun i _ hi => by rw [hUa i (by omega)]), hv_cg (A := Wa) (B := fun i => C (34 * ((sfS (sq la) (sq lb) u l V (apA A u l) (u + l + 2) (u + l)).2.2 - 1) + (17 + i))) _ (l + 1) 0 (fun i _ hi => by rw [hWa i (by omega)])]
    exact z
  have r1 := (rdv_17 (B := G) (q := q) (u + 1 - q) O1 T1 (fun i hi => by rw [hO1 i hi]; exact pd_17 hU i hi) hT1 (by omega)).2
  have r2 := (rdv_17 (B := G) (q := q) (l + 1 - q) N1 T2 (fun i hi => by rw [hN1 i hi]; exact pd_17 hW i hi) hT2 (by omega)).2
  have g7 := g6 O1 T1 N1 T2 hO1 hN1
  refine oO_some hm1 hm ha hb ⟨Ua, Wa, hs, by show u - q ≤ 16; omega, by show l - q ≤ 16; omega, fun i hi => r1 i (by have : i ≤ u - q := hi; omega), fun i hi => r2 i (by have : i ≤ l - q := hi; omega), ?_⟩
  rw [← eu, ← el]
  exact g7
