/-! Fraction: object 10, up 11, low 13, workOne 15, workTwo 17, equations 19, samples 38, 39 -/
def isF (h : am_H) : Prop := h[10]? = some (.inr (4, [.ref 11, .ref 13, .ref 15, .ref 17, .ref 19, .ref 38, .ref 39]))
def lt18 (A : Nat → Nat) : Prop := ∀ i, i < 18 → A i < 2147483647
def tk (S : Nat → Nat) (l : Bk) : Nat → Nat → Nat
  | 0 => S
  | i + 1 => updN (tk S l i) i (smp l (1073741824 + i) l.length)
theorem tk_18 {S : Nat → Nat} (h : lt18 S) (l : Bk) : ∀ i, lt18 (tk S l i)
  | 0 => h
  | i + 1 => fun j hj => by
    rw [tk]
    unfold updN
    split
    · exact smp_lt _ _ _
    · exact tk_18 h l i j hj
theorem tk_at (S : Nat → Nat) (l : Bk) : ∀ n i, i < n → tk S l n i = smp l (1073741824 + i) l.length
  | 0, i, h => absurd h (Nat.not_lt_zero _)
  | n + 1, i, h => by
    rw [tk]
    unfold updN
    split
    · subst_vars; rfl
    · exact tk_at S l n i (by omega)
theorem c_A_part0 (X : am_X) (d : Nat) (h : am_H) (hO : isF h) : ar Pg X d n_A_part 0 [some (.ref 10), some (.int (nI 0))] [] h (fun rr h' => rr = some (.ref 11) ∧ h' = h) := by
  unfold isF at hO
  refine ar_go M_A_part 1 _ 1 _ [some (.ref 10), some (.int (nI 0))] _ [.int (nI 0)] rfl ?_
  refine ar_if M_A_part rfl rfl (fun z => absurd z (by decide)) (fun _ => ?_)
  refine ar_go M_A_part 1 _ 5 _ [some (.ref 10), some (.int (nI 0))] _ [.ref 10] rfl ?_
  refine ar_get M_A_part rfl rfl hO rfl ?_
  refine ar_go M_A_part 1 _ 15 _ [some (.ref 10), some (.int (nI 0))] _ [.ref 11] rfl ?_
  exact ar_R M_A_part rfl rfl rfl rfl (⟨rfl, rfl⟩)
theorem c_A_part1 (X : am_X) (d : Nat) (h : am_H) (hO : isF h) : ar Pg X d n_A_part 0 [some (.ref 10), some (.int (nI 1))] [] h (fun rr h' => rr = some (.ref 13) ∧ h' = h) := by
  unfold isF at hO
  refine ar_go M_A_part 1 _ 1 _ [some (.ref 10), some (.int (nI 1))] _ [.int (nI 1)] rfl ?_
  refine ar_if M_A_part rfl rfl (fun _ => ?_) (fun z => absurd z (by decide))
  refine ar_go M_A_part 1 _ 12 _ [some (.ref 10), some (.int (nI 1))] _ [.ref 10] rfl ?_
  refine ar_get M_A_part rfl rfl hO rfl ?_
  exact ar_R M_A_part rfl rfl rfl rfl (⟨rfl, rfl⟩)
theorem c_A_ts_loop (X : am_X) (d : Nat) (h : am_H) {ra rb pts : Nat} {la lb : Bk} {SA SB : Nat → Nat} (hra : 40 ≤ ra ∧ ra < 56) (hrb : 40 ≤ rb ∧ rb < 56) (hWa : bkW la) (hWb : bkW lb) (hpts : pts ≤ 18) : ∀ (n i : Nat) (h1 : am_H), pts - i < n → i ≤ pts → isF h1 → isR h1 ra la → isR h1 rb lb → isLA h1 38 18 (tk SA la i) → isLA h1 39 18 (tk SB lb i) → fr [38, 39] h h1 → ar Pg X (d + 1 + 1) n_A_takeSamples 3 [some (.ref 10), some (.ref ra), some (.ref rb), some (.int (nI pts)), some (.int (nI i))] [] h1 (fun rr h' => rr = none ∧ fr [38, 39] h h' ∧ isLA h' 38 18 (tk SA la pts) ∧ isLA h' 39 18 (tk SB lb pts)) := by
  intro n
  induction n with
  | zero => intro i h1 hn; omega
  | succ n ih =>
    intro i h1 hn hi hO hRa hRb h38 h39 hF
    unfold isF at hO
    unfold isLA at h38 h39
    refine ar_go M_A_takeSamples 2 _ 6 _ [some (.ref 10), some (.ref ra), some (.ref rb), some (.int (nI pts)), some (.int (nI i))] _ [.int (nI pts), .int (nI i)] rfl ?_
    refine ar_icmp M_A_takeSamples rfl rfl (fun hc => ?_) (fun hc => ?_)
    · have hc := c2_ge_t (a := i) (b := pts) (by omega) (by omega) hc
      have hi2 : i = pts := by omega
      rw [hi2] at h38 h39
      exact ar_R M_A_takeSamples rfl rfl rfl rfl (⟨rfl, hF, h38, h39⟩)
    · have hc := c2_ge_f (a := i) (b := pts) (by omega) (by omega) hc
      refine ar_go M_A_takeSamples 1 _ 10 _ [some (.ref 10), some (.ref ra), some (.ref rb), some (.int (nI pts)), some (.int (nI i))] _ [.ref 10] rfl ?_
      refine ar_get M_A_takeSamples rfl rfl hO rfl ?_
      refine ar_go M_A_takeSamples 5 _ 22 _ [some (.ref 10), some (.ref ra), some (.ref rb), some (.int (nI pts)), some (.int (nI i))] _ [.long ((nI i).toInt64), .long (lN 1073741824), .ref ra, .int (nI i), .ref 38] rfl ?_
      refine ar_top (w := .long (lN i)) (congrArg Value.long (nI_l (by omega))) ?_
      refine ar_go M_A_takeSamples 1 _ 23 _ [some (.ref 10), some (.ref ra), some (.ref rb), some (.int (nI pts)), some (.int (nI i))] _ [.long (lN 1073741824 + lN i), .ref ra, .int (nI i), .ref 38] rfl ?_
      refine ar_top (w := .long (lN (1073741824 + i))) (congrArg Value.long (lN_add 1073741824 i)) ?_
      refine ar_CV M_A_takeSamples rfl rfl (Or.inl rfl) rfl rfl (Nat.le_of_ble_eq_true rfl) hRa.2.1 M_R_sampleAt (Nat.le_of_ble_eq_true rfl) (c_R_sampleAt X d _ hRa (by omega) hWa (by omega) (by omega)) (fun r1 h1 hq => ?_)
      obtain ⟨rfl, rfl⟩ := hq
      refine ⟨rfl, ?_⟩
      show ar Pg _ _ _ 26 [some (.ref 10), some (.ref ra), some (.ref rb), some (.int (nI pts)), some (.int (nI i))] [.long (lN (smp la (1073741824 + i) la.length)), .int (nI i), .ref 38] _ _
      refine ar_last M_A_takeSamples rfl h38 (vp_in_nI (by omega) (by decide)) (fun h2 hf he => ?_)
      rw [nI_clamp (n := i) (by omega)] at he
      rw [updL_lN] at he
      have hO := hf.at hO (by simp only [List.mem_cons, List.not_mem_nil, or_false]; omega)
      have h39 := hf.at h39 (by simp only [List.mem_cons, List.not_mem_nil, or_false]; omega)
      have h38 : h2[38]? = some (.inl (1, 18, .inr (.inl (fun z9 => lN ((updN (tk SA la i) i (smp la (1073741824 + i) la.length)) z9))))) := he
      have k1 := hf
      have hRa := hRa.fr hf (by simp; omega) (by simp; omega) (by simp; omega) (by simp; omega)
      have hRb := hRb.fr hf (by simp; omega) (by simp; omega) (by simp; omega) (by simp; omega)
      refine ar_go M_A_takeSamples 1 _ 28 _ [some (.ref 10), some (.ref ra), some (.ref rb), some (.int (nI pts)), some (.int (nI i))] _ [.ref 10] rfl ?_
      refine ar_get M_A_takeSamples rfl rfl hO rfl ?_
      refine ar_go M_A_takeSamples 5 _ 40 _ [some (.ref 10), some (.ref ra), some (.ref rb), some (.int (nI pts)), some (.int (nI i))] _ [.long ((nI i).toInt64), .long (lN 1073741824), .ref rb, .int (nI i), .ref 39] rfl ?_
      refine ar_top (w := .long (lN i)) (congrArg Value.long (nI_l (by omega))) ?_
      refine ar_go M_A_takeSamples 1 _ 41 _ [some (.ref 10), some (.ref ra), some (.ref rb), some (.int (nI pts)), some (.int (nI i))] _ [.long (lN 1073741824 + lN i), .ref rb, .int (nI i), .ref 39] rfl ?_
      refine ar_top (w := .long (lN (1073741824 + i))) (congrArg Value.long (lN_add 1073741824 i)) ?_
      refine ar_CV M_A_takeSamples rfl rfl (Or.inl rfl) rfl rfl (Nat.le_of_ble_eq_true rfl) hRb.2.1 M_R_sampleAt (Nat.le_of_ble_eq_true rfl) (c_R_sampleAt X d _ hRb (by omega) hWb (by omega) (by omega)) (fun r1 h1 hq => ?_)
      obtain ⟨rfl, rfl⟩ := hq
      refine ⟨rfl, ?_⟩
      show ar Pg _ _ _ 44 [some (.ref 10), some (.ref ra), some (.ref rb), some (.int (nI pts)), some (.int (nI i))] [.long (lN (smp lb (1073741824 + i) lb.length)), .int (nI i), .ref 39] _ _
      refine ar_last M_A_takeSamples rfl h39 (vp_in_nI (by omega) (by decide)) (fun h3 hf he => ?_)
      rw [nI_clamp (n := i) (by omega)] at he
      rw [updL_lN] at he
      have hO := hf.at hO (by simp only [List.mem_cons, List.not_mem_nil, or_false]; omega)
      have h38 := hf.at h38 (by simp only [List.mem_cons, List.not_mem_nil, or_false]; omega)
      have h39 : h3[39]? = some (.inl (1, 18, .inr (.inl (fun z9 => lN ((updN (tk SB lb i) i (smp lb (1073741824 + i) lb.length)) z9))))) := he
      have hRa := hRa.fr hf (by simp; omega) (by simp; omega) (by simp; omega) (by simp; omega)
      have hRb := hRb.fr hf (by simp; omega) (by simp; omega) (by simp; omega) (by simp; omega)
      refine ar_go M_A_takeSamples 1 _ 48 _ [some (.ref 10), some (.ref ra), some (.ref rb), some (.int (nI pts)), some (.int (nI i + Int32.ofInt 1))] _ [] rfl ?_
      rw [show nI i + Int32.ofInt 1 = nI (i + 1) from nI_add i 1]
      refine ar_go M_A_takeSamples 1 _ 3 _ [some (.ref 10), some (.ref ra), some (.ref rb), some (.int (nI pts)), some (.int (nI (i + 1)))] _ [] rfl ?_
      exact ih (i + 1) h3 (by omega) (by omega) hO hRa hRb h38 h39 (hF.tr (k1.tr hf (l := [38, 39]) (by simp) (by simp)) (by simp) (by simp))
theorem c_A_takeSamples (X : am_X) (d : Nat) (h : am_H) {ra rb pts : Nat} {la lb : Bk} {SA SB : Nat → Nat} (hra : 40 ≤ ra ∧ ra < 56) (hrb : 40 ≤ rb ∧ rb < 56) (hWa : bkW la) (hWb : bkW lb) (hpts : pts ≤ 18) (hO : isF h) (hRa : isR h ra la) (hRb : isR h rb lb) (h38 : isLA h 38 18 SA) (h39 : isLA h 39 18 SB) : ar Pg X (d + 1 + 1) n_A_takeSamples 0 [some (.ref 10), some (.ref ra), some (.ref rb), some (.int (nI pts)), none] [] h (fun rr h' => rr = none ∧ fr [38, 39] h h' ∧ isLA h' 38 18 (tk SA la pts) ∧ isLA h' 39 18 (tk SB lb pts)) := by
  refine ar_go M_A_takeSamples 2 _ 3 _ [some (.ref 10), some (.ref ra), some (.ref rb), some (.int (nI pts)), some (.int (nI 0))] _ [] rfl ?_
  exact c_A_ts_loop X d h hra hrb hWa hWb hpts (pts + 1) 0 h (by omega) (by omega) hO hRa hRb h38 h39 (fr.rf _ _)
theorem lcmpE {a b : Nat} (ha : a < 2 ^ 31) (hb : b < 2 ^ 31) : lg_cmp (lN a) (lN b) = if a = b then 0 else if b < a then 1 else -1 := by
  unfold lg_cmp
  by_cases h : b < a
  · rw [if_pos ((lN_lt hb ha).mpr h), if_neg (by omega), if_pos h]
  · rw [if_neg (fun z => h ((lN_lt hb ha).mp z))]
    by_cases e : a = b
    · rw [if_pos (by rw [e]), if_pos e]
    · rw [if_neg (fun z => e ((lN_eq ha hb).mp z)), if_neg e, if_neg h]
def fts (U : Nat → Nat) (ku : Nat) (W : Nat → Nat) (kw : Nat) (SA SB : Nat → Nat) (k : Nat) : Bool := decide (hvS U (1073741824 + k) ku 0 * SB k % 2147483647 = hvS W (1073741824 + k) kw 0 * SA k % 2147483647)
def ftA (U : Nat → Nat) (ku : Nat) (W : Nat → Nat) (kw : Nat) (SA SB : Nat → Nat) : Nat → Nat → Bool
  | 0, _ => true
  | n + 1, k => if fts U ku W kw SA SB k = true then ftA U ku W kw SA SB n (k + 1) else false
theorem c_A_fs_loop (X : am_X) (d : Nat) (h : am_H) {ku kw pts : Nat} {U W SA SB : Nat → Nat} (hO : isF h) (hU : isP h 11 ku U) (hW : isP h 13 kw W) (h38 : isLA h 38 18 SA) (h39 : isLA h 39 18 SB) (hSA : lt18 SA) (hSB : lt18 SB) (hpts : pts ≤ 18) : ∀ (n k : Nat) (x3 x5 x7 : Option Value), k + n = pts → ar Pg X (d + 1 + 1) n_A_fitsSamples 2 [some (.ref 10), some (.int (nI pts)), some (.int (nI k)), x3, none, x5, none, x7, none] [] h (fun rr h' => rr = some (.int (bi (ftA U ku W kw SA SB n k))) ∧ h' = h) := by
  unfold isF at hO
  unfold isLA at h38 h39
  intro n
  induction n with
  | zero =>
    intro k x3 x5 x7 hk
    have hk : k = pts := by omega
    subst hk
    refine ar_go M_A_fitsSamples 2 _ 4 _ [some (.ref 10), some (.int (nI k)), some (.int (nI k)), x3, none, x5, none, x7, none] _ [.int (nI k), .int (nI k)] rfl ?_
    refine ar_icmp M_A_fitsSamples rfl rfl (fun _ => ?_) (fun hc => ?_)
    · refine ar_go M_A_fitsSamples 1 _ 69 _ [some (.ref 10), some (.int (nI k)), some (.int (nI k)), x3, none, x5, none, x7, none] _ [.int (nI 1)] rfl ?_
      exact ar_zret M_A_fitsSamples rfl rfl (Or.inr rfl) ⟨rfl, rfl⟩
    · have hc := c2_ge_f (a := k) (b := k) (by omega) (by omega) hc
      omega
  | succ n ih =>
    intro k x3 x5 x7 hk
    refine ar_go M_A_fitsSamples 2 _ 4 _ [some (.ref 10), some (.int (nI pts)), some (.int (nI k)), x3, none, x5, none, x7, none] _ [.int (nI pts), .int (nI k)] rfl ?_
    refine ar_icmp M_A_fitsSamples rfl rfl (fun hc => ?_) (fun hc => ?_)
    · have hc := c2_ge_t (a := k) (b := pts) (by omega) (by omega) hc
      omega
    · have hc := c2_ge_f (a := k) (b := pts) (by omega) (by omega) hc
      refine ar_go M_A_fitsSamples 3 _ 12 _ [some (.ref 10), some (.int (nI pts)), some (.int (nI k)), x3, none, x5, none, x7, none] _ [.long ((nI k).toInt64), .long (lN 1073741824)] rfl ?_
      refine ar_top (w := .long (lN k)) (congrArg Value.long (nI_l (by omega))) ?_
      refine ar_go M_A_fitsSamples 1 _ 13 _ [some (.ref 10), some (.int (nI pts)), some (.int (nI k)), x3, none, x5, none, x7, none] _ [.long (lN 1073741824 + lN k)] rfl ?_
      refine ar_top (w := .long (lN (1073741824 + k))) (congrArg Value.long (lN_add 1073741824 k)) ?_
      refine ar_go M_A_fitsSamples 2 _ 15 _ [some (.ref 10), some (.int (nI pts)), some (.int (nI k)), some (.long (lN (1073741824 + k))), none, x5, none, x7, none] _ [.ref 10] rfl ?_
      refine ar_get M_A_fitsSamples rfl rfl hO rfl ?_
      refine ar_go M_A_fitsSamples 1 _ 19 _ [some (.ref 10), some (.int (nI pts)), some (.int (nI k)), some (.long (lN (1073741824 + k))), none, x5, none, x7, none] _ [.long (lN (1073741824 + k)), .ref 11] rfl ?_
      refine ar_CV M_A_fitsSamples rfl rfl (Or.inl rfl) rfl rfl (Nat.le_of_ble_eq_true rfl) hU.2.1 M_Y_valueAt (Nat.le_of_ble_eq_true rfl) (c_Y_valueAt X d _ hU (by decide) (by omega)) (fun r1 h1 hq => ?_)
      obtain ⟨rfl, rfl⟩ := hq
      refine ⟨rfl, ?_⟩
      show ar Pg _ _ _ 22 [some (.ref 10), some (.int (nI pts)), some (.int (nI k)), some (.long (lN (1073741824 + k))), none, x5, none, x7, none] [.long (lN (hvS U (1073741824 + k) ku 0))] _ _
      have hv1 := hvS_lt U (1073741824 + k) ku 0
      have hv2 := hvS_lt W (1073741824 + k) kw 0
      have hsa := hSA k (by omega)
      have hsb := hSB k (by omega)
      refine ar_go M_A_fitsSamples 1 _ 23 _ [some (.ref 10), some (.int (nI pts)), some (.int (nI k)), some (.long (lN (1073741824 + k))), none, x5, none, x7, none] _ [.ref 10, .long (lN (hvS U (1073741824 + k) ku 0))] rfl ?_
      refine ar_get M_A_fitsSamples rfl rfl hO rfl ?_
      refine ar_go M_A_fitsSamples 1 _ 27 _ [some (.ref 10), some (.int (nI pts)), some (.int (nI k)), some (.long (lN (1073741824 + k))), none, x5, none, x7, none] _ [.int (nI k), .ref 39, .long (lN (hvS U (1073741824 + k) ku 0))] rfl ?_
      refine ar_lald M_A_fitsSamples rfl h39 (vp_in_nI (by omega) (by decide)) ?_
      rw [nI_clamp (n := k) (by omega)]
      refine ar_CS M_A_fitsSamples rfl rfl (Nat.le_of_ble_eq_true rfl) rfl rfl (Nat.le_of_ble_eq_true rfl) M_F_times (Nat.le_of_ble_eq_true rfl) (c_F_times X (d + 1) _ (by omega) (by omega)) (fun r1 h1 hq => ?_)
      obtain ⟨rfl, rfl⟩ := hq
      refine ⟨rfl, ?_⟩
      show ar Pg _ _ _ 31 [some (.ref 10), some (.int (nI pts)), some (.int (nI k)), some (.long (lN (1073741824 + k))), none, x5, none, x7, none] [.long (lN (hvS U (1073741824 + k) ku 0 * SB k % 2147483647))] _ _
      refine ar_go M_A_fitsSamples 2 _ 34 _ [some (.ref 10), some (.int (nI pts)), some (.int (nI k)), some (.long (lN (1073741824 + k))), none, some (.long (lN (hvS U (1073741824 + k) ku 0 * SB k % 2147483647))), none, x7, none] _ [.ref 10] rfl ?_
      refine ar_get M_A_fitsSamples rfl rfl hO rfl ?_
      refine ar_go M_A_fitsSamples 1 _ 38 _ [some (.ref 10), some (.int (nI pts)), some (.int (nI k)), some (.long (lN (1073741824 + k))), none, some (.long (lN (hvS U (1073741824 + k) ku 0 * SB k % 2147483647))), none, x7, none] _ [.long (lN (1073741824 + k)), .ref 13] rfl ?_
      refine ar_CV M_A_fitsSamples rfl rfl (Or.inl rfl) rfl rfl (Nat.le_of_ble_eq_true rfl) hW.2.1 M_Y_valueAt (Nat.le_of_ble_eq_true rfl) (c_Y_valueAt X d _ hW (by decide) (by omega)) (fun r1 h1 hq => ?_)
      obtain ⟨rfl, rfl⟩ := hq
      refine ⟨rfl, ?_⟩
      show ar Pg _ _ _ 41 [some (.ref 10), some (.int (nI pts)), some (.int (nI k)), some (.long (lN (1073741824 + k))), none, some (.long (lN (hvS U (1073741824 + k) ku 0 * SB k % 2147483647))), none, x7, none] [.long (lN (hvS W (1073741824 + k) kw 0))] _ _
      refine ar_go M_A_fitsSamples 1 _ 42 _ [some (.ref 10), some (.int (nI pts)), some (.int (nI k)), some (.long (lN (1073741824 + k))), none, some (.long (lN (hvS U (1073741824 + k) ku 0 * SB k % 2147483647))), none, x7, none] _ [.ref 10, .long (lN (hvS W (1073741824 + k) kw 0))] rfl ?_
      refine ar_get M_A_fitsSamples rfl rfl hO rfl ?_
      refine ar_go M_A_fitsSamples 1 _ 46 _ [some (.ref 10), some (.int (nI pts)), some (.int (nI k)), some (.long (lN (1073741824 + k))), none, some (.long (lN (hvS U (1073741824 + k) ku 0 * SB k % 2147483647))), none, x7, none] _ [.int (nI k), .ref 38, .long (lN (hvS W (1073741824 + k) kw 0))] rfl ?_
      refine ar_lald M_A_fitsSamples rfl h38 (vp_in_nI (by omega) (by decide)) ?_
      rw [nI_clamp (n := k) (by omega)]
      refine ar_CS M_A_fitsSamples rfl rfl (Nat.le_of_ble_eq_true rfl) rfl rfl (Nat.le_of_ble_eq_true rfl) M_F_times (Nat.le_of_ble_eq_true rfl) (c_F_times X (d + 1) _ (by omega) (by omega)) (fun r1 h1 hq => ?_)
      obtain ⟨rfl, rfl⟩ := hq
      refine ⟨rfl, ?_⟩
      show ar Pg _ _ _ 50 [some (.ref 10), some (.int (nI pts)), some (.int (nI k)), some (.long (lN (1073741824 + k))), none, some (.long (lN (hvS U (1073741824 + k) ku 0 * SB k % 2147483647))), none, x7, none] [.long (lN (hvS W (1073741824 + k) kw 0 * SA k % 2147483647))] _ _
      have hm1 : hvS U (1073741824 + k) ku 0 * SB k % 2147483647 < 2147483647 := Nat.mod_lt _ (by decide)
      have hm2 : hvS W (1073741824 + k) kw 0 * SA k % 2147483647 < 2147483647 := Nat.mod_lt _ (by decide)
      refine ar_go M_A_fitsSamples 4 _ 57 _ [some (.ref 10), some (.int (nI pts)), some (.int (nI k)), some (.long (lN (1073741824 + k))), none, some (.long (lN (hvS U (1073741824 + k) ku 0 * SB k % 2147483647))), none, some (.long (lN (hvS W (1073741824 + k) kw 0 * SA k % 2147483647))), none] _ [.int (lg_cmp (lN (hvS U (1073741824 + k) ku 0 * SB k % 2147483647)) (lN (hvS W (1073741824 + k) kw 0 * SA k % 2147483647)))] rfl ?_
      refine ar_top (w := .int (if hvS U (1073741824 + k) ku 0 * SB k % 2147483647 = hvS W (1073741824 + k) kw 0 * SA k % 2147483647 then 0 else if hvS W (1073741824 + k) kw 0 * SA k % 2147483647 < hvS U (1073741824 + k) ku 0 * SB k % 2147483647 then 1 else -1)) (congrArg Value.int (lcmpE (by omega) (by omega))) ?_
      by_cases h0 : hvS U (1073741824 + k) ku 0 * SB k % 2147483647 = hvS W (1073741824 + k) kw 0 * SA k % 2147483647
      · rw [if_pos h0]
        refine ar_if M_A_fitsSamples rfl rfl (fun _ => ?_) (fun z => absurd z (by decide))
        refine ar_go M_A_fitsSamples 1 _ 65 _ [some (.ref 10), some (.int (nI pts)), some (.int (nI k + Int32.ofInt 1)), some (.long (lN (1073741824 + k))), none, some (.long (lN (hvS U (1073741824 + k) ku 0 * SB k % 2147483647))), none, some (.long (lN (hvS W (1073741824 + k) kw 0 * SA k % 2147483647))), none] _ [] rfl ?_
        rw [show nI k + Int32.ofInt 1 = nI (k + 1) from nI_add k 1]
        refine ar_go M_A_fitsSamples 1 _ 2 _ [some (.ref 10), some (.int (nI pts)), some (.int (nI (k + 1))), some (.long (lN (1073741824 + k))), none, some (.long (lN (hvS U (1073741824 + k) ku 0 * SB k % 2147483647))), none, some (.long (lN (hvS W (1073741824 + k) kw 0 * SA k % 2147483647))), none] _ [] rfl ?_
        rw [ftA, if_pos (show fts U ku W kw SA SB k = true from decide_eq_true h0)]
        exact ih (k + 1) _ _ _ (by omega)
      · rw [if_neg h0]
        refine ar_if M_A_fitsSamples rfl rfl (fun z => ?_) (fun _ => ?_)
        · split at z <;> exact absurd z (by decide)
        · rw [ftA, if_neg (show ¬ fts U ku W kw SA SB k = true from fun z => h0 (of_decide_eq_true z))]
          refine ar_go M_A_fitsSamples 1 _ 61 _ [some (.ref 10), some (.int (nI pts)), some (.int (nI k)), some (.long (lN (1073741824 + k))), none, some (.long (lN (hvS U (1073741824 + k) ku 0 * SB k % 2147483647))), none, some (.long (lN (hvS W (1073741824 + k) kw 0 * SA k % 2147483647))), none] _ [.int (nI 0)] rfl ?_
          exact ar_zret M_A_fitsSamples rfl rfl (Or.inl rfl) (⟨rfl, rfl⟩)
theorem c_A_fitsSamples (X : am_X) (d : Nat) (h : am_H) {ku kw pts : Nat} {U W SA SB : Nat → Nat} (hO : isF h) (hU : isP h 11 ku U) (hW : isP h 13 kw W) (h38 : isLA h 38 18 SA) (h39 : isLA h 39 18 SB) (hSA : lt18 SA) (hSB : lt18 SB) (hpts : pts ≤ 18) : ar Pg X (d + 1 + 1) n_A_fitsSamples 0 [some (.ref 10), some (.int (nI pts)), none, none, none, none, none, none, none] [] h (fun rr h' => rr = some (.int (bi (ftA U ku W kw SA SB pts 0))) ∧ h' = h) := by
  refine ar_go M_A_fitsSamples 2 _ 2 _ [some (.ref 10), some (.int (nI pts)), some (.int (nI 0)), none, none, none, none, none, none] _ [] rfl ?_
  exact c_A_fs_loop X d h hO hU hW h38 h39 hSA hSB hpts pts 0 none none none (by omega)
