theorem gjs_I {c col : Nat} {M0 : Nat → Nat → Nat} {S : (Nat → Nat → Nat) × (Nat → Option Nat) × Nat} (hc : c ≤ 16) (hcol : col < c) (h : gI c M0 col S.1 S.2.1 S.2.2) : gI c M0 (col + 1) (gjs c col S).1 (gjs c col S).2.1 (gjs c col S).2.2 := by
  obtain ⟨M, uk, us⟩ := S
  dsimp only at h
  have hus : us ≤ col := h.2.1
  obtain ⟨f1, f2, f3, f4⟩ := fz_ok M col (c - us) us
  rw [gjs]
  dsimp only
  generalize fz M col (c - us) us = p at *
  by_cases hp : p < c
  · rw [if_pos hp]
    dsimp only
    have hpv : M p col ≠ 0 := f4 (by omega)
    have hpl : M p col < 2147483647 := h.2.2.2.2.2.1 p (by omega) col (by omega)
    have e1 : swM M p us us = M p := by rw [swM, if_pos rfl]
    rw [e1]
    have hs := tf_iv hpl hpv
    have hz3 := h.2.2.1 p f1 hp
    have hll : ∀ i, i < 16 → lt17 (swM M p us i) := by
      intro i hi
      rw [swM]
      by_cases z1 : i = us
      · rw [if_pos z1]
        exact h.2.2.2.2.2.1 p (by omega)
      · rw [if_neg z1]
        by_cases z2 : i = p
        · rw [if_pos z2]
          exact h.2.2.2.2.2.1 us (by omega)
        · rw [if_neg z2]
          exact h.2.2.2.2.2.1 i hi
    have hU1 : sc1 (M p) (mf_iv (M p col)) col (c + 1 - col) col = 1 := by
      rw [sc1_at, if_pos (by omega), Nat.mul_comm]
      have k1 := hs
      rw [← tf_mul, ← tf_mod] at k1
      exact tf_inj (Nat.mod_lt _ (by decide)) (by decide) (by rw [k1, tf_1])
    have hUz : ∀ j, j < col → sc1 (M p) (mf_iv (M p col)) col (c + 1 - col) j = 0 := by
      intro j hj
      rw [sc1_at, if_neg (by omega)]
      exact hz3 j hj
    have hU : ∀ j, j ≤ c → tf (sc1 (M p) (mf_iv (M p col)) col (c + 1 - col) j) = tf (mf_iv (M p col)) * tf (M p j) := by
      intro j hj
      by_cases hjc : j < col
      · rw [hUz j hjc, hz3 j hjc, tf_0]
        grind
      · rw [sc1_at, if_pos (by omega), tf_mod, tf_mul]
        grind
    have hUl : lt17 (sc1 (M p) (mf_iv (M p col)) col (c + 1 - col)) := sc1_17 (h.2.2.2.2.2.1 p (by omega)) _ _ _
    generalize sc1 (M p) (mf_iv (M p col)) col (c + 1 - col) = U2 at *
    have eM : ∀ r, r ≠ us → updM (swM M p us) us U2 r = swM M p us r := fun r hr => updM_n _ _ hr
    have eu : updM (swM M p us) us U2 us = U2 := updM_s _ _ _
    have eR : ∀ r, r < c → r ≠ us → clr (updM (swM M p us) us U2) us col c c r = if swM M p us r col ≠ 0 then cl1 (swM M p us r) U2 (swM M p us r col) col (c + 1 - col) else swM M p us r := by
      intro r hr hne
      rw [clr_at, eM r hne, eu]
      by_cases z : swM M p us r col = 0
      · rw [if_neg (fun y => y.2.2 z), if_neg (fun y => y z)]
      · rw [if_pos ⟨hr, hne, z⟩, if_pos z]
    apply gI_step hc hcol h f1 hp hs hU hU1 hUz
    · intro r hr hne j hj
      rw [eR r hr hne]
      by_cases z : swM M p us r col = 0
      · rw [if_neg (fun y => y z), z, tf_0]
        grind
      · rw [if_pos z, cl1_at]
        by_cases hjc : j < col
        · rw [if_neg (by omega), hUz j hjc, tf_0]
          grind
        · rw [if_pos (by omega), tf_min]
    · rw [clr_at, if_neg (fun y => y.2.1 rfl), eu]
    · intro r hr hne j hj
      rw [eR r hr hne]
      by_cases z : swM M p us r col = 0
      · rw [if_neg (fun y => y z)]
      · rw [if_pos z, cl1_at, if_neg (by omega)]
    · intro r hr hne
      rw [eR r hr hne]
      by_cases z : swM M p us r col = 0
      · rw [if_neg (fun y => y z)]
        exact z
      · rw [if_pos z, cl1_at, if_pos (by omega), hU1, Nat.mul_one]
        omega
    · intro i hi
      rw [clr_at]
      by_cases z1 : i = us
      · rw [if_neg (fun y => y.2.1 z1), z1, eu]
        exact hUl
      · rw [eM i z1]
        by_cases z2 : i < c ∧ i ≠ us ∧ swM M p us i col ≠ 0
        · rw [if_pos z2]
          exact cl1_17 (hll i hi) _ _ _ _
        · rw [if_neg z2]
          exact hll i hi
  · rw [if_neg hp]
    exact gI_skip hc hcol h (fun i z1 z2 => f3 i z1 (by omega))
theorem gj_I {c : Nat} {M : Nat → Nat → Nat} {uk : Nat → Option Nat} (hc : c ≤ 16) (hM : ∀ i, i < 16 → lt17 (M i)) : ∀ col, col ≤ c → gI c M col (gj c M uk col).1 (gj c M uk col).2.1 (gj c M uk col).2.2
  | 0, _ => by
    refine ⟨fun z => Iff.rfl, Nat.le_refl 0, ?_, ?_, ?_, hM, ?_⟩
    · intro r _ _ j hj
      exact absurd hj (Nat.not_lt_zero j)
    · intro j r hj
      exact absurd hj (Nat.not_lt_zero j)
    · intro r hr
      exact absurd hr (Nat.not_lt_zero r)
    · intro j _ hj
      exact flU_lt uk 16 j hj
  | col + 1, h => by
    have ih := gj_I (uk := uk) hc hM col (by omega)
    exact gjs_I hc (by omega) ih
/-- no row 0 = 1: what is read off is a solution -/
theorem gI_sound {c us : Nat} {M0 M : Nat → Nat → Nat} {uk : Nat → Option Nat} {z : Nat → mF} (h : gI c M0 c M uk us) (hr : rs0 M c (c - us) us = true) (hz : ∀ j, j < c → z j = tf (unk M uk c j)) (hzc : z c = -1) : sat c M0 z := by
  obtain ⟨h1, h2, h3, h4, h5, h6, h7⟩ := h
  apply (h1 z).mp
  intro r hrc
  rw [dt_s, hzc]
  by_cases hru : r < us
  · obtain ⟨j, k1, k2, k3⟩ := h5 r hru
    have hM := (h4 j r k1 k2).2 r hrc
    rw [if_pos rfl] at hM
    have e : dt (M r) z c = tf (M r j) * z j := by
      apply dt_one c k1
      intro i hi hne
      rw [hz i hi, unk]
      cases hu : uk i with
      | none =>
        show tf (M r i) * tf 0 = 0
        rw [tf_0]
        grind
      | some r' =>
        have k4 := (h4 i r' hi hu).2 r hrc
        by_cases hrr : r = r'
        · exfalso
          apply hne
          apply k3 i hi
          rw [hu, hrr]
        · rw [if_neg hrr] at k4
          show tf (M r i) * tf (M r' c) = 0
          rw [k4, tf_0]
          grind
    rw [e, hz j k1, unk, k2, hM, tf_1]
    show 1 * tf (M r c) + tf (M r c) * -1 = 0
    grind
  · have e : dt (M r) z c = 0 := by
      apply dt_none
      intro i hi
      rw [h3 r (by omega) hrc i hi, tf_0]
      grind
    rw [e, rs0_t M c (c - us) us hr r (by omega) (by omega), tf_0]
    grind
/-- a row 0 = 1: there is none -/
theorem gI_none {c us : Nat} {M0 M : Nat → Nat → Nat} {uk : Nat → Option Nat} {z : Nat → mF} (hc : c ≤ 16) (h : gI c M0 c M uk us) (hr : rs0 M c (c - us) us = false) (hzc : z c = -1) : ¬ sat c M0 z := by
  obtain ⟨h1, h2, h3, h4, h5, h6, h7⟩ := h
  intro hs
  have hs1 := (h1 z).mpr hs
  obtain ⟨r, k1, k2, k3⟩ := rs0_f M c (c - us) us hr
  have k4 := hs1 r (by omega)
  have e : dt (M r) z c = 0 := by
    apply dt_none
    intro i hi
    rw [h3 r k1 (by omega) i hi, tf_0]
    grind
  rw [dt_s, e, hzc] at k4
  apply k3
  apply (tf_eq0 (h6 r (by omega) c (by omega))).mp
  grind
/-! the system -/
theorem tp_tf (s x : Nat) : ∀ i, tf (tp s x i) = tf s * tf x ^ i
  | 0 => by
    rw [tp]
    grind
  | i + 1 => by
    rw [tp, tf_mod, tf_mul, tp_tf s x i]
    grind
theorem r1_at (A : Nat → Nat) (s x fm : Nat) : ∀ i j, r1 A s x fm i j = if fm ≤ j ∧ j < fm + i then tp s x (j - fm) else A j
  | 0, j => by rw [r1, if_neg (by omega)]
  | i + 1, j => by
    rw [r1]
    by_cases hj : j = fm + i
    · subst hj
      rw [updN_s, if_pos (by omega), show fm + i - fm = i by omega]
    · rw [updN_n _ _ hj, r1_at A s x fm i j]
      by_cases h : fm ≤ j ∧ j < fm + i
      · rw [if_pos h, if_pos (by omega)]
      · rw [if_neg h, if_neg (by omega)]
theorem ng_tf {a : Nat} (h : a < 2147483647) : tf (ng a) = - tf a := by
  rw [ng, tf_mod, tf_sub (by omega), tf_0]
  grind
theorem sM_at (M : Nat → Nat → Nat) (SA SB : Nat → Nat) (u l : Nat) : ∀ n r, sM M SA SB u l n r = if r < n then srw (M r) (1073741824 + r) (SA r) (SB r) u l else M r
  | 0, r => by rw [sM, if_neg (by omega)]
  | n + 1, r => by
    rw [sM]
    by_cases hr : r = n
    · subst hr
      rw [updM_s, sM_at M SA SB u l r r, if_neg (by omega), if_pos (by omega)]
    · rw [updM_n _ _ hr, sM_at M SA SB u l n r]
      by_cases h : r < n
      · rw [if_pos h, if_pos (by omega)]
      · rw [if_neg h, if_neg (by omega)]
theorem srw_dt {A U W : Nat → Nat} {x sA sB u l : Nat} {z : Nat → mF} (hsA : sA < 2147483647) (hU : tf (U u) = 1) (hW : tf (W l) = 1) (hzU : ∀ i, i < u → z i = tf (U i)) (hzW : ∀ i, i < l → z (u + i) = tf (W i)) (hzn : z (u + l) = -1) : dt (srw A x sA sB u l) z (u + l + 1) = tf sB * hv U (tf x) (u + 1) 0 - tf sA * hv W (tf x) (l + 1) 0 := by
  have hn : ∀ i, i ≠ u + l → srw A x sA sB u l i = r1 (r1 A sB x 0 u) (ng sA) x u l i := fun i hi => by rw [srw, updN_n _ _ hi]
  have e1 : dt (srw A x sA sB u l) z u = tf sB * hv U (tf x) u 0 := by
    apply dt_geo
    · intro i hi
      rw [hn i (by omega), r1_at, if_neg (by omega), r1_at, if_pos (by omega), tp_tf, show i - 0 = i by omega]
    · exact hzU
  have e2 : dt (fun i => srw A x sA sB u l (u + i)) (fun i => z (u + i)) l = tf (ng sA) * hv W (tf x) l 0 := by
    apply dt_geo
    · intro i hi
      rw [hn (u + i) (by omega), r1_at, if_pos (by omega), tp_tf, show u + i - u = i by omega]
    · exact hzW
  have e3 : tf (srw A x sA sB u l (u + l)) = - (tf sB * tf x ^ u + tf (ng sA) * tf x ^ l) := by
    rw [srw, updN_s, ng_tf (Nat.mod_lt _ (by decide)), tf_mod, tf_add, tp_tf, tp_tf]
  rw [dt_s, dt_app, e1, e2, e3, hzn, hv_top U, hv_top W, Nat.zero_add, Nat.zero_add, hU, hW, ng_tf hsA]
  generalize tf x ^ u = y1
  generalize tf x ^ l = y2
  grind
theorem bs_at (A : Nat → Nat) (M : Nat → Nat → Nat) (uk : Nat → Option Nat) (c fs : Nat) : ∀ n i, i < n → bs A M uk c fs n i = unk M uk c (fs + i)
  | 0, i, h => absurd h (Nat.not_lt_zero i)
  | n + 1, i, h => by
    rw [bs]
    by_cases hi : i = n
    · subst hi
      rw [updN_s]
    · rw [updN_n _ _ hi, bs_at A M uk c fs n i (by omega)]
theorem sM_17 {M : Nat → Nat → Nat} {SA SB : Nat → Nat} {u l n : Nat} (hM : ∀ i, i < 16 → lt17 (M i)) (hB : lt18 SB) (hn : n ≤ 16) : ∀ i, i < 16 → lt17 (sM M SA SB u l n i) := by
  intro i hi
  rw [sM_at]
  by_cases h : i < n
  · rw [if_pos h]
    exact srw_17 (hM i hi) (hB i (by omega)) _ _ _ _
  · rw [if_neg h]
    exact hM i hi
/-- U and W fit the samples at the points k < n -/
def ftn (SA SB : Nat → Nat) (n u l : Nat) (U W : Nat → Nat) : Prop := ∀ k, k < n → hv U (tf (1073741824 + k)) (u + 1) 0 * tf (SB k) = hv W (tf (1073741824 + k)) (l + 1) 0 * tf (SA k)
theorem mF_e1 {a b x y : mF} (h : b * x - a * y = 0) : x * b = y * a := by grind
theorem mF_e2 {a b x y : mF} (h : x * b = y * a) : b * x - a * y = 0 := by grind
theorem fd_sound {M : Nat → Nat → Nat} {uk : Nat → Option Nat} {SA SB A0 C0 : Nat → Nat} {n u l : Nat} (hn : n ≤ 16) (hul : u + l = n) (hM : ∀ i, i < 16 → lt17 (M i)) (hA : lt18 SA) (hB : lt18 SB) (hok : fdOk (gj n (sM M SA SB u l n) uk n) n = true) : ftn SA SB n u l (fdP A0 (gj n (sM M SA SB u l n) uk n) n 0 u) (fdP C0 (gj n (sM M SA SB u l n) uk n) n u l) := by
  subst hul
  have hI := gj_I (uk := uk) hn (sM_17 (SA := SA) (u := u) (l := l) (n := u + l) hM hB hn) (u + l) (Nat.le_refl _)
  rw [fdOk] at hok
  generalize gj (u + l) (sM M SA SB u l (u + l)) uk (u + l) = G at *
  have z1 : ∀ j, j ≠ u + l → (if j = u + l then (-1 : mF) else tf (unk G.1 G.2.1 (u + l) j)) = tf (unk G.1 G.2.1 (u + l) j) := fun j hj => if_neg hj
  have z2 : (if u + l = u + l then (-1 : mF) else tf (unk G.1 G.2.1 (u + l) (u + l))) = -1 := if_pos rfl
  have hs := gI_sound (z := fun j => if j = u + l then -1 else tf (unk G.1 G.2.1 (u + l) j)) hI hok (fun j hj => z1 j (by omega)) z2
  intro k hk
  have h1 := hs k hk
  have hl := hA k (by omega)
  rw [sM_at, if_pos hk] at h1
  rw [srw_dt (U := fdP A0 G (u + l) 0 u) (W := fdP C0 G (u + l) u l) hl (by rw [fdP, updN_s, tf_1]) (by rw [fdP, updN_s, tf_1]) (fun i hi => by
    refine (z1 i (by omega)).trans ?_
    rw [fdP, updN_n _ _ (by omega), bs_at _ _ _ _ _ _ _ hi, Nat.zero_add]) (fun i hi => by
    refine (z1 (u + i) (by omega)).trans ?_
    rw [fdP, updN_n _ _ (by omega), bs_at _ _ _ _ _ _ _ hi]) z2] at h1
  exact mF_e1 h1
theorem fd_none {M : Nat → Nat → Nat} {uk : Nat → Option Nat} {SA SB U W : Nat → Nat} {n u l : Nat} (hn : n ≤ 16) (hul : u + l = n) (hM : ∀ i, i < 16 → lt17 (M i)) (hA : lt18 SA) (hB : lt18 SB) (hok : fdOk (gj n (sM M SA SB u l n) uk n) n = false) (hU : tf (U u) = 1) (hW : tf (W l) = 1) : ¬ ftn SA SB n u l U W := by
  subst hul
  have hI := gj_I (uk := uk) hn (sM_17 (SA := SA) (u := u) (l := l) (n := u + l) hM hB hn) (u + l) (Nat.le_refl _)
  rw [fdOk] at hok
  generalize gj (u + l) (sM M SA SB u l (u + l)) uk (u + l) = G at *
  intro hf
  have z2 : (if u + l = u + l then (-1 : mF) else if u + l < u then tf (U (u + l)) else tf (W (u + l - u))) = -1 := if_pos rfl
  refine gI_none (z := fun j => if j = u + l then -1 else if j < u then tf (U j) else tf (W (j - u))) hn hI hok z2 ?_
  intro k hk
  have hl := hA k (by omega)
  have h1 := hf k hk
  rw [sM_at, if_pos hk]
  rw [srw_dt (U := U) (W := W) hl hU hW (fun i hi => by
    show (if i = u + l then (-1 : mF) else if i < u then tf (U i) else tf (W (i - u))) = _
    rw [if_neg (by omega), if_pos hi]) (fun i hi => by
    show (if u + i = u + l then (-1 : mF) else if u + i < u then tf (U (u + i)) else tf (W (u + i - u))) = _
    rw [if_neg (by omega), if_neg (by omega), show u + i - u = i by omega]) z2]
  exact mF_e2 h1
