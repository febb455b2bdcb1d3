/-! The reference's division and common divisor -/
theorem rdv_17 {B : Nat → Nat} {q : Nat} : ∀ (n : Nat) (A T : Nat → Nat), lt17 A → lt17 T → n + q ≤ 17 → lt17 (rdv B q n (A, T)).1 ∧ lt17 (rdv B q n (A, T)).2
  | 0, A, T, hA, hT, _ => ⟨hA, hT⟩
  | n + 1, A, T, hA, hT, h => rdv_17 n _ _ (di1_17 hA _ _ _ _) (hT.up _ (hA _ (by omega))) (by omega)
theorem rdv_s (B : Nat → Nat) (q n : Nat) (A T : Nat → Nat) : rdv B q (n + 1) (A, T) = rdv B q n (di1 A (A (n + q)) n B (q + 1), updN T n (A (n + q))) := rfl
theorem rdv_div {B : Nat → Nat} {q : Nat} (hB : B q = 1) : ∀ (n : Nat) (A T : Nat → Nat), (∀ x, hv A x (n + q) 0 = hv (rdv B q n (A, T)).2 x n 0 * hv B x (q + 1) 0 + hv (rdv B q n (A, T)).1 x q 0) ∧ (∀ i, q ≤ i → i < n + q → (rdv B q n (A, T)).1 i = 0) ∧ (∀ i, n + q ≤ i → (rdv B q n (A, T)).1 i = A i) ∧ ∀ i, n ≤ i → (rdv B q n (A, T)).2 i = T i
  | 0, A, T => by
    refine ⟨?_, ?_, fun _ _ => rfl, fun _ _ => rfl⟩
    · intro x
      rw [hv_0, Nat.zero_add]
      show hv A x q 0 = 0 * _ + hv A x q 0
      grind
    · intro i h1 h2
      omega
  | n + 1, A, T => by
    have hz : di1 A (A (n + q)) n B (q + 1) (n + q) = 0 := by
      rw [di1_at, if_pos (by omega), show n + q - n = q by omega, hB, Nat.mul_one]
      omega
    obtain ⟨i1, i2, i3, i4⟩ := rdv_div hB n (di1 A (A (n + q)) n B (q + 1)) (updN T n (A (n + q)))
    rw [rdv_s]
    have hn : (rdv B q n (di1 A (A (n + q)) n B (q + 1), updN T n (A (n + q)))).2 n = A (n + q) := by
      rw [i4 n (Nat.le_refl n), updN_s]
    generalize hR : rdv B q n (di1 A (A (n + q)) n B (q + 1), updN T n (A (n + q))) = R at *
    refine ⟨?_, ?_, ?_, ?_⟩
    · intro x
      have e1 := hv_di A B (A (n + q)) n (q + 1) x
      rw [show n + (q + 1) = n + q + 1 by omega, hv_top (di1 A (A (n + q)) n B (q + 1)), Nat.zero_add, hz, tf_0, i1 x] at e1
      have e3 := hv_top R.2 x n 0
      rw [Nat.zero_add, hn] at e3
      rw [show n + 1 + q = n + q + 1 by omega, e3]
      generalize x ^ n = u at *
      generalize x ^ (n + q) = w at *
      generalize tf (A (n + q)) = mu at *
      generalize hv A x (n + q + 1) 0 = y1 at *
      generalize hv B x (q + 1) 0 = y2 at *
      generalize hv R.2 x n 0 = y3 at *
      generalize hv R.1 x q 0 = y4 at *
      grind
    · intro i h1 h2
      by_cases hi : i = n + q
      · rw [i3 i (by omega), hi, hz]
      · exact i2 i h1 (by omega)
    · intro i hi
      rw [i3 i (by omega), di1_at, if_neg (by omega)]
    · intro i hi
      rw [i4 i (by omega), updN_n _ _ (by omega)]
def mx (A B : Nat → Nat) (n : Nat) : Nat → Nat := fun j => if j < n then A j else B j
theorem mx_at {A B : Nat → Nat} {n j : Nat} (h : j < n) : mx A B n j = A j := by rw [mx, if_pos h]
theorem mx_ge {A B : Nat → Nat} {n j : Nat} (h : n ≤ j) : mx A B n j = B j := by rw [mx, if_neg (by omega)]
theorem mx_0 (A B : Nat → Nat) : mx A B 0 = B := by
  funext j
  rw [mx, if_neg (by omega)]
theorem mx_up (A B : Nat → Nat) (i : Nat) : updN (mx A B i) i (A i) = mx A B (i + 1) := by
  funext j
  by_cases h : j = i
  · rw [h, updN_s, mx_at (by omega)]
  · rw [updN_n _ _ h]
    by_cases h2 : j < i
    · rw [mx_at h2, mx_at (by omega)]
    · rw [mx_ge (by omega), mx_ge (by omega)]
theorem mx_17 {A B : Nat → Nat} (hA : lt17 A) (hB : lt17 B) (n : Nat) : lt17 (mx A B n) := by
  intro i hi
  by_cases h : i < n
  · rw [mx_at h]
    exact hA i hi
  · rw [mx_ge (by omega)]
    exact hB i hi
def cq (dg ud : Nat) (O N T : Nat → Nat) : (Nat → Nat) × (Nat → Nat) := if ud ≤ dg then rdv N ud (dg + 1 - ud) (O, T) else (O, T)
def ceu : Nat → Nat → (Nat → Nat) → Nat → (Nat → Nat) → (Nat → Nat) → Nat × (Nat → Nat)
  | 0, _, _, ud, N, _ => (ud, N)
  | n + 1, dg, O, ud, N, T => if trm (cq dg ud O N T).1 17 = 0 then (ud, N) else ceu n ud (mx N (cq dg ud O N T).1 17) (trm (cq dg ud O N T).1 17 - 1) (ml (mx (cq dg ud O N T).1 N 17) (mf_iv (mx (cq dg ud O N T).1 N 17 (trm (cq dg ud O N T).1 17 - 1))) (trm (cq dg ud O N T).1 17 - 1 + 1)) (cq dg ud O N T).2
theorem cq_17 {dg ud : Nat} {O N T : Nat → Nat} (hd : dg ≤ 16) (hO : lt17 O) (hT : lt17 T) : lt17 (cq dg ud O N T).1 ∧ lt17 (cq dg ud O N T).2 := by
  rw [cq]
  by_cases h : ud ≤ dg
  · rw [if_pos h]
    exact rdv_17 _ _ _ hO hT (by omega)
  · rw [if_neg h]
    exact ⟨hO, hT⟩
theorem hv_cut {A : Nat → Nat} {k : Nat} (x : mF) : ∀ n, (∀ i, k ≤ i → i < k + n → A i = 0) → hv A x (k + n) 0 = hv A x k 0
  | 0, _ => rfl
  | n + 1, h => by
    rw [show k + (n + 1) = k + n + 1 by omega, hv_top, Nat.zero_add, h (k + n) (by omega) (by omega), tf_0, hv_cut x n (fun i h1 h2 => h i h1 (by omega))]
    grind
/-- one step: what stays has fewer factors -/
theorem cq_ok {dg ud : Nat} {O N T : Nat → Nat} (hd : dg ≤ 16) (hu : ud ≤ 16) (hz : ∀ i, dg < i → i < 17 → O i = 0) (hN : N ud = 1) : trm (cq dg ud O N T).1 17 ≤ ud ∧ ∃ Q : mF → mF, pf 17 Q ∧ ∀ x, hv O x 17 0 = Q x * hv N x (ud + 1) 0 + hv (cq dg ud O N T).1 x 17 0 := by
  have key : ∀ i, ud ≤ i → i < 17 → (cq dg ud O N T).1 i = 0 := by
    intro i h1 h2
    rw [cq]
    by_cases h : ud ≤ dg
    · rw [if_pos h]
      obtain ⟨_, i2, i3, _⟩ := rdv_div hN (dg + 1 - ud) O T
      by_cases hi : i < dg + 1 - ud + ud
      · exact i2 i h1 hi
      · rw [i3 i (by omega)]
        exact hz i (by omega) h2
    · rw [if_neg h]
      exact hz i (by omega) h2
  refine ⟨?_, ?_⟩
  · apply Nat.le_of_not_lt
    intro z
    have h1 := trm_le (cq dg ud O N T).1 17
    rcases trm_top (cq dg ud O N T).1 17 with h | h
    · omega
    · exact h (key _ (by omega) (by omega))
  · by_cases h : ud ≤ dg
    · have e : cq dg ud O N T = rdv N ud (dg + 1 - ud) (O, T) := by rw [cq, if_pos h]
      refine ⟨fun x => hv (rdv N ud (dg + 1 - ud) (O, T)).2 x (dg + 1 - ud) 0, (hv_pf _ _ _).mono (by omega), ?_⟩
      intro x
      have h1 := hv_cut (A := O) (k := dg + 1) x (17 - (dg + 1)) (fun i h1 h2 => hz i (by omega) (by omega))
      have h2 := hv_cut (A := (cq dg ud O N T).1) (k := ud) x (17 - ud) (fun i h1 h2 => key i h1 (by omega))
      rw [show dg + 1 + (17 - (dg + 1)) = 17 by omega] at h1
      rw [show ud + (17 - ud) = 17 by omega] at h2
      have h3 := (rdv_div hN (dg + 1 - ud) O T).1 x
      rw [show dg + 1 - ud + ud = dg + 1 by omega] at h3
      rw [h1, h2, e, h3]
    · have e : cq dg ud O N T = (O, T) := by rw [cq, if_neg h]
      refine ⟨fun _ => 0, pf_0 17, ?_⟩
      intro x
      rw [e]
      grind
theorem mF_r3 {i k y1 y2 y3 y4 y5 Q a b : mF} (h : i * k = 1) (z1 : y1 = Q * y2 + y3) (z2 : y5 = i * y3) (z3 : y5 = y4 * b) (z4 : y2 = y4 * a) : y1 = y4 * (Q * a + k * b) := by
  have e1 : y3 = y4 * (k * b) := mF_r1 h z2 z3
  rw [z1, e1, z4]
  grind
theorem mF_r4 {i y1 y2 y3 y4 y5 Q s t : mF} (z1 : y1 = Q * y2 + y3) (z2 : y5 = i * y3) (z3 : y4 = s * y2 + t * y5) : y4 = i * t * y1 + (s - i * (t * Q)) * y2 := by
  rw [z3, z2, z1]
  grind
theorem ceu_main : ∀ (n dg : Nat) (O : Nat → Nat) (ud : Nat) (N T : Nat → Nat), lt17 O → lt17 N → lt17 T → dg ≤ 16 → ud ≤ 16 → (∀ i, dg < i → i < 17 → O i = 0) → (∀ i, ud < i → i < 17 → N i = 0) → N ud = 1 → ud < n → ∃ q G', ceu n dg O ud N T = (q, G') ∧ q ≤ 16 ∧ lt17 G' ∧ G' q = 1 ∧ ∃ a b s t : mF → mF, pf (18 * n + 1) a ∧ pf (18 * n + 1) b ∧ pf (18 * n + 1) s ∧ pf (18 * n + 1) t ∧ (∀ x, hv O x 17 0 = hv G' x (q + 1) 0 * a x) ∧ (∀ x, hv N x (ud + 1) 0 = hv G' x (q + 1) 0 * b x) ∧ ∀ x, hv G' x (q + 1) 0 = s x * hv O x 17 0 + t x * hv N x (ud + 1) 0
  | 0, _, _, ud, _, _, _, _, _, _, _, _, _, _, h => absurd h (Nat.not_lt_zero ud)
  | n + 1, dg, O, ud, N, T, hO, hN, hT, h1, h2, h3, h4, h5, h6 => by
    obtain ⟨htr, Q, hQ, hq⟩ := cq_ok (T := T) h1 h2 h3 h5
    have h17 := cq_17 (ud := ud) (N := N) h1 hO hT
    have htm := fun x => trm_hv (cq dg ud O N T).1 x 17
    have htz := trm_z (cq dg ud O N T).1 17
    have htt := trm_top (cq dg ud O N T).1 17
    rw [ceu]
    generalize cq dg ud O N T = C at *
    by_cases h0 : trm C.1 17 = 0
    · rw [if_pos h0]
      have hr : ∀ x, hv C.1 x 17 0 = 0 := by
        intro x
        rw [← htm x, h0, hv_0]
      refine ⟨ud, N, rfl, h2, hN, h5, Q, fun _ => 1, fun _ => 0, fun _ => 1, hQ.mono (by omega), (pf_c 1).mono (by omega), pf_0 _, (pf_c 1).mono (by omega), ?_, ?_, ?_⟩
      · intro x
        rw [hq x, hr x]
        grind
      · intro x
        grind
      · intro x
        grind
    · rw [if_neg h0]
      obtain ⟨r, hr⟩ : ∃ r, trm C.1 17 = r + 1 := ⟨trm C.1 17 - 1, by omega⟩
      rw [hr] at htt htz htr ⊢
      rw [show r + 1 - 1 = r by omega] at htt ⊢
      have hC0 : C.1 r ≠ 0 := by
        rcases htt with z | z
        · omega
        · exact z
      have hR : ∀ x, hv C.1 x 17 0 = hv C.1 x (r + 1) 0 := fun x => by rw [← htm x, hr]
      have hD : ∀ i, i < 17 → mx C.1 N 17 i = C.1 i := fun i hi => mx_at hi
      have hO2 : ∀ i, i < 17 → mx N C.1 17 i = N i := fun i hi => mx_at hi
      have hD17 : lt17 (mx C.1 N 17) := mx_17 h17.1 hN 17
      have hO17 : lt17 (mx N C.1 17) := mx_17 hN h17.1 17
      generalize mx C.1 N 17 = D at *
      generalize mx N C.1 17 = O2 at *
      have hDr : D r = C.1 r := hD r (by omega)
      have hCl : D r < 2147483647 := hD17 r (by omega)
      have hiv := tf_iv hCl (by rw [hDr]; exact hC0)
      have hone := ml_one (A := D) (k := r) hCl (by rw [hDr]; exact hC0)
      have hm := fun x => ml_hv D (mf_iv (D r)) x (r + 1)
      have hl17 : lt17 (ml D (mf_iv (D r)) (r + 1)) := ml_17 hD17 _ _
      have hzz : ∀ i, r < i → i < 17 → ml D (mf_iv (D r)) (r + 1) i = 0 := by
        intro i z1 z2
        rw [ml_ge _ _ _ _ (by omega), hD i z2]
        exact htz i (by omega) z2
      have hDh : ∀ x, hv D x (r + 1) 0 = hv C.1 x (r + 1) 0 := fun x => hv_cg x _ _ (fun i _ hi => by rw [hD i (by omega)])
      generalize ml D (mf_iv (D r)) (r + 1) = N1 at *
      obtain ⟨q, G', c1, c2, c3, c4, a, b, s, t, pa, pb, ps, pt, ea, eb, eg⟩ := ceu_main n ud O2 r N1 C.2 hO17 hl17 h17.2 h2 (by omega) (fun i z1 z2 => by rw [hO2 i z2]; exact h4 i z1 z2) hzz hone (by omega)
      have hN17 : ∀ x, hv O2 x 17 0 = hv N x (ud + 1) 0 := by
        intro x
        have := hv_cut (A := O2) (k := ud + 1) x (17 - (ud + 1)) (fun i z1 z2 => by rw [hO2 i (by omega)]; exact h4 i (by omega) (by omega))
        rw [show ud + 1 + (17 - (ud + 1)) = 17 by omega] at this
        rw [this]
        exact hv_cg x _ _ (fun i _ hi => by rw [hO2 i (by omega)])
      refine ⟨q, G', c1, c2, c3, c4, fun x => Q x * a x + tf (D r) * b x, a, fun x => tf (mf_iv (D r)) * t x, fun x => s x - tf (mf_iv (D r)) * (t x * Q x), ?_, pa.mono (by omega), (pt.sc _).mono (by omega), ?_, ?_, ?_, ?_⟩
      · exact ((hQ.mul pa).mono (by omega)).add ((pb.sc _).mono (by omega))
      · exact (ps.mono (by omega)).sub (((pt.mul hQ).sc _).mono (by omega))
      · intro x
        have z1 := hq x
        have z2 := hm x
        have z3 := eb x
        have z4 := ea x
        rw [hR x] at z1
        rw [hN17 x] at z4
        rw [hDh x] at z2
        generalize hv O x 17 0 = y1 at *
        generalize hv N x (ud + 1) 0 = y2 at *
        generalize hv C.1 x (r + 1) 0 = y3 at *
        generalize hv G' x (q + 1) 0 = y4 at *
        generalize hv N1 x (r + 1) 0 = y5 at *
        generalize tf (mf_iv (D r)) = i at *
        generalize tf (D r) = k at *
        exact mF_r3 hiv z1 z2 z3 z4
      · intro x
        rw [← hN17 x]
        exact ea x
      · intro x
        have z1 := hq x
        have z2 := hm x
        have z3 := eg x
        rw [hR x] at z1
        rw [hN17 x] at z3
        rw [hDh x] at z2
        generalize hv O x 17 0 = y1 at *
        generalize hv N x (ud + 1) 0 = y2 at *
        generalize hv C.1 x (r + 1) 0 = y3 at *
        generalize hv G' x (q + 1) 0 = y4 at *
        generalize hv N1 x (r + 1) 0 = y5 at *
        generalize tf (mf_iv (D r)) = i at *
        exact mF_r4 z1 z2 z3
def pd (u : Nat) (U : Nat → Nat) : Nat → Nat := fun i => if i ≤ u then U i else 0
theorem pd_17 {u : Nat} {U : Nat → Nat} (h : lt17 U) : lt17 (pd u U) := by
  intro i hi
  rw [pd]
  by_cases z : i ≤ u
  · rw [if_pos z]
    exact h i hi
  · rw [if_neg z]
    decide
theorem pd_hv {u : Nat} {U O : Nat → Nat} (hu : u ≤ 16) (hO : ∀ i, i < 17 → O i = pd u U i) (x : mF) : hv O x 17 0 = hv U x (u + 1) 0 := by
  have h := hv_cut (A := O) (k := u + 1) x (17 - (u + 1)) (fun i h1 h2 => by rw [hO i (by omega), pd, if_neg (by omega)])
  rw [show u + 1 + (17 - (u + 1)) = 17 by omega] at h
  rw [h]
  apply hv_cg
  intro i _ hi
  rw [hO i (by omega), pd, if_pos (by omega)]
/-- what the reference's cancel finds, of u and l -/
theorem ccR_ok {u l : Nat} {U W O N T : Nat → Nat} (hu : u ≤ 16) (hl : l ≤ 16) (hU : lt17 U) (hW : lt17 W) (hT : lt17 T) (hU1 : U u = 1) (hW1 : W l = 1) (hO : ∀ i, i < 17 → O i = pd u U i) (hN : ∀ i, i < 17 → N i = pd l W i) : ∃ q G, ceu (l + 1) u O l N T = (q, G) ∧ q ≤ u ∧ q ≤ l ∧ lt17 G ∧ G q = 1 ∧ ∀ (O1 T1 N1 T2 : Nat → Nat), (∀ i, i < 17 → O1 i = pd u U i) → (∀ i, i < 17 → N1 i = pd l W i) → rdF (fun x => hv U x (u + 1) 0) (fun x => hv W x (l + 1) 0) (u - q) (fun x => hv (rdv G q (u + 1 - q) (O1, T1)).2 x (u - q + 1) 0) (l - q) (fun x => hv (rdv G q (l + 1 - q) (N1, T2)).2 x (l - q + 1) 0) := by
  have hO17 : lt17 O := fun i hi => by rw [hO i hi]; exact pd_17 hU i hi
  have hN17 : lt17 N := fun i hi => by rw [hN i hi]; exact pd_17 hW i hi
  obtain ⟨q, G, c1, c2, c3, c4, a, b, s, t, pa, pb, ps, pt, ea, eb, eg⟩ := ceu_main (l + 1) u O l N T hO17 hN17 hT hu hl (fun i h1 h2 => by rw [hO i h2, pd, if_neg (by omega)]) (fun i h1 h2 => by rw [hN i h2, pd, if_neg (by omega)]) (by rw [hN l (by omega), pd, if_pos (Nat.le_refl l)]; exact hW1) (by omega)
  have eW : ∀ x, hv N x (l + 1) 0 = hv W x (l + 1) 0 := fun x => hv_cg x _ _ (fun i _ hi => by rw [hN i (by omega), pd, if_pos (by omega)])
  have eU := fun x => pd_hv hu hO x
  have ea' : ∀ x, hv U x (u + 1) 0 = hv G x (q + 1) 0 * a x := fun x => by rw [← eU, ea]
  have eb' : ∀ x, hv W x (l + 1) 0 = hv G x (q + 1) 0 * b x := fun x => by rw [← eW, eb]
  have hqu := dg_le hu c2 hU1 c4 (pa.mono (by omega)) ea'
  have hql := dg_le hl c2 hW1 c4 (pb.mono (by omega)) eb'
  refine ⟨q, G, c1, hqu, hql, c3, c4, ?_⟩
  have hg : lc q 1 (fun x => hv G x (q + 1) 0) := by
    have := hv_lc G q
    rw [c4, tf_1] at this
    exact this
  -- one quotient
  have one : ∀ (k : Nat) (V V1 : Nat → Nat) (f : mF → mF) (T1 : Nat → Nat), k ≤ 16 → q ≤ k → V k = 1 → (∀ i, i < 17 → V1 i = pd k V i) → pf 1000 f → (∀ x, hv V x (k + 1) 0 = hv G x (q + 1) 0 * f x) → (∀ x, f x = hv (rdv G q (k + 1 - q) (V1, T1)).2 x (k - q + 1) 0) ∧ lc (k - q) 1 (fun x => hv (rdv G q (k + 1 - q) (V1, T1)).2 x (k - q + 1) 0) := by
    intro k V V1 f T1 hk hqk hV hV1 hp hf
    rw [show k + 1 - q = k - q + 1 by omega]
    have hfq : ∀ x, f x = hv (rdv G q (k - q + 1) (V1, T1)).2 x (k - q + 1) 0 := by
      have hr : ∀ x, hv G x (q + 1) 0 * (f x - hv (rdv G q (k - q + 1) (V1, T1)).2 x (k - q + 1) 0) = hv (rdv G q (k - q + 1) (V1, T1)).1 x q 0 := by
        intro x
        have h1 := (rdv_div c4 (k - q + 1) V1 T1).1 x
        have h2 : hv V1 x (k + 1) 0 = hv V x (k + 1) 0 := hv_cg x _ _ (fun i _ hi => by rw [hV1 i (by omega), pd, if_pos (by omega)])
        rw [show k - q + 1 + q = k + 1 by omega, h2, hf x] at h1
        grind
      have hd : pf 1000 (fun x => f x - hv (rdv G q (k - q + 1) (V1, T1)).2 x (k - q + 1) 0) := hp.sub ((hv_pf _ _ _).mono (by omega))
      rcases hd.lead with z | ⟨e, c, h1, h2, h3⟩
      · intro x
        have := z x
        grind
      · exfalso
        have h4 := (hg.mul h3).congr hr
        have h5 : pf (q + e) (fun x => hv (rdv G q (k - q + 1) (V1, T1)).1 x q 0) := (hv_pf _ _ _).mono (by omega)
        exact mF_mne mF_10 h2 (lc_hi (by omega) h4 h5)
    refine ⟨hfq, ?_⟩
    have hl1 := hv_lc (rdv G q (k - q + 1) (V1, T1)).2 (k - q)
    have hVl := hv_lc V k
    rw [hV, tf_1] at hVl
    have h6 : lc (q + (k - q)) (1 * tf ((rdv G q (k - q + 1) (V1, T1)).2 (k - q))) (fun x => hv V x (k + 1) 0) := (hg.mul hl1).congr (fun x => by
      show hv G x (q + 1) 0 * hv (rdv G q (k - q + 1) (V1, T1)).2 x (k - q + 1) 0 = hv V x (k + 1) 0
      rw [← hfq x, ← hf x])
    rw [show q + (k - q) = k by omega] at h6
    have h7 := lc_eq (by omega) hVl h6
    have h8 : tf ((rdv G q (k - q + 1) (V1, T1)).2 (k - q)) = 1 := by grind
    rw [h8] at hl1
    exact hl1
  intro O1 T1 N1 T2 hO1 hN1
  obtain ⟨f1, l1⟩ := one u U O1 a T1 hu hqu hU1 hO1 (pa.mono (by omega)) ea'
  obtain ⟨f2, l2⟩ := one l W N1 b T2 hl hql hW1 hN1 (pb.mono (by omega)) eb'
  exact rdF_of (by omega) (by omega) (by omega) l1 l2 hg ea' eb' f1 f2 (ps.mono (by omega)) (pt.mono (by omega)) (fun x => by rw [eg x, eU, eW])
