/-! Equations: setRow, solve; becomeSolution -/
def tp (s x : Nat) : Nat → Nat
  | 0 => s
  | i + 1 => tp s x i * x % 2147483647
theorem tp_lt {s : Nat} (hs : s < 2147483647) (x : Nat) : ∀ i, tp s x i < 2147483647
  | 0 => hs
  | i + 1 => Nat.mod_lt _ (by decide)
def r1 (A : Nat → Nat) (s x fm : Nat) : Nat → Nat → Nat
  | 0 => A
  | i + 1 => updN (r1 A s x fm i) (fm + i) (tp s x i)
theorem r1_17 {A : Nat → Nat} (h : lt17 A) {s : Nat} (hs : s < 2147483647) (x fm : Nat) : ∀ i, lt17 (r1 A s x fm i)
  | 0 => h
  | i + 1 => (r1_17 h hs x fm i).up _ (tp_lt hs x i)
def ng (a : Nat) : Nat := (0 + 2147483647 - a) % 2147483647
theorem ng_lt (a : Nat) : ng a < 2147483647 := Nat.mod_lt _ (by decide)
/-- a row as setRow lays it -/
def srw (A : Nat → Nat) (x sA sB u l : Nat) : Nat → Nat := updN (r1 (r1 A sB x 0 u) (ng sA) x u l) (u + l) (ng ((tp sB x u + tp (ng sA) x l) % 2147483647))
theorem srw_17 {A : Nat → Nat} (h : lt17 A) {sB : Nat} (hs : sB < 2147483647) (x sA u l : Nat) : lt17 (srw A x sA sB u l) := (r1_17 (r1_17 h hs x 0 u) (ng_lt sA) x u l).up _ (ng_lt _)
theorem c_Q_s1_loop (X : am_X) (d : Nat) (h : am_H) {ro : Nat → Nat} {c row x sA sB u l : Nat} {M : Nat → Nat → Nat} {A : Nat → Nat} {uk : Nat → Option Nat} {Q : Option Value → am_H → Prop} (hrow : row < 16) (hul : u + l < 17) (hx : x < 2147483648) (hsA : sA < 2147483647) (hsB : sB < 2147483647) (hA : lt17 A)
    (K : ∀ h1 : am_H, isQ h1 ro c (updM M row (r1 A sB x 0 u)) uk → fr eqL h h1 → ar Pg X (d + 1) n_Q_setRow 43 [some (.ref 19), some (.int (nI row)), some (.long (lN x)), none, some (.long (lN sA)), none, some (.long (lN sB)), none, some (.int (nI u)), some (.int (nI l)), some (.ref (ro row)), some (.long (lN (tp sB x u))), none, some (.int (nI u)), none, none] [] h1 Q) :
    ∀ (n i : Nat) (h1 : am_H), u - i < n → i ≤ u → isQ h1 ro c (updM M row (r1 A sB x 0 i)) uk → fr eqL h h1 → ar Pg X (d + 1) n_Q_setRow 15 [some (.ref 19), some (.int (nI row)), some (.long (lN x)), none, some (.long (lN sA)), none, some (.long (lN sB)), none, some (.int (nI u)), some (.int (nI l)), some (.ref (ro row)), some (.long (lN (tp sB x i))), none, some (.int (nI i)), none, none] [] h1 Q := by
  intro n
  induction n with
  | zero => intro i h1 hn; omega
  | succ n ih =>
    intro i h1 hn hi hQ hF
    have hQ0 := hQ
    obtain ⟨q1, ⟨g, q2, q3⟩, q4, q5, q6, q7⟩ := hQ0
    have hrb := q4.1 row hrow
    have hx1 := q5 row hrow
    rw [updM_s] at hx1
    refine ar_go M_Q_setRow 2 _ 19 _ [some (.ref 19), some (.int (nI row)), some (.long (lN x)), none, some (.long (lN sA)), none, some (.long (lN sB)), none, some (.int (nI u)), some (.int (nI l)), some (.ref (ro row)), some (.long (lN (tp sB x i))), none, some (.int (nI i)), none, none] _ [.int (nI u), .int (nI i)] rfl ?_
    refine ar_icmp M_Q_setRow rfl rfl (fun hc => ?_) (fun hc => ?_)
    · have hc := c2_ge_t (a := i) (b := u) (by omega) (by omega) hc
      have hi2 : i = u := by omega
      rw [hi2] at hQ ⊢
      exact K h1 hQ hF
    · have hc := c2_ge_f (a := i) (b := u) (by omega) (by omega) hc
      have htp := tp_lt hsB x i
      refine ar_go M_Q_setRow 3 _ 28 _ [some (.ref 19), some (.int (nI row)), some (.long (lN x)), none, some (.long (lN sA)), none, some (.long (lN sB)), none, some (.int (nI u)), some (.int (nI l)), some (.ref (ro row)), some (.long (lN (tp sB x i))), none, some (.int (nI i)), none, none] _ [.long (lN (tp sB x i)), .int (nI i), .ref (ro row)] rfl ?_
      refine ar_last M_Q_setRow rfl hx1 (vp_in_nI (by omega) (by decide)) (fun h2 hf he => ?_)
      rw [nI_clamp (n := i) (by omega)] at he
      rw [updL_lN] at he
      have hx1 : h2[(ro row)]? = some (.inl (1, 17, .inr (.inl (fun z9 => lN ((updN (r1 A sB x 0 i) i (tp sB x i)) z9))))) := he
      have hx1 : h2[ro row]? = some (.inl (1, 17, .inr (.inl (fun z9 => lN (r1 A sB x 0 (i + 1) z9))))) := by rw [hx1, r1, Nat.zero_add]
      have hQ2 := hQ.set hrow hf hx1 (r1_17 hA hsB x 0 (i + 1))
      rw [updM_updM] at hQ2
      have k1 := hF.tr hf (l := eqL) (fun _ z => z) (eq_sub q4 hrow)
      refine ar_go M_Q_setRow 2 _ 32 _ [some (.ref 19), some (.int (nI row)), some (.long (lN x)), none, some (.long (lN sA)), none, some (.long (lN sB)), none, some (.int (nI u)), some (.int (nI l)), some (.ref (ro row)), some (.long (lN (tp sB x i))), none, some (.int (nI i)), none, none] _ [.long (lN x), .long (lN (tp sB x i))] rfl ?_
      refine ar_CS M_Q_setRow rfl rfl (Nat.le_of_ble_eq_true rfl) rfl rfl (Nat.le_of_ble_eq_true rfl) M_F_times (Nat.le_of_ble_eq_true rfl) (c_F_times X d _ (by omega) hx) (fun r1 h1 hq => ?_)
      obtain ⟨rfl, rfl⟩ := hq
      refine ⟨rfl, ?_⟩
      show ar Pg _ _ _ 35 [some (.ref 19), some (.int (nI row)), some (.long (lN x)), none, some (.long (lN sA)), none, some (.long (lN sB)), none, some (.int (nI u)), some (.int (nI l)), some (.ref (ro row)), some (.long (lN (tp sB x i))), none, some (.int (nI i)), none, none] [.long (lN (tp sB x (i + 1)))] _ _
      refine ar_go M_Q_setRow 1 _ 37 _ [some (.ref 19), some (.int (nI row)), some (.long (lN x)), none, some (.long (lN sA)), none, some (.long (lN sB)), none, some (.int (nI u)), some (.int (nI l)), some (.ref (ro row)), some (.long (lN (tp sB x (i + 1)))), none, some (.int (nI i)), none, none] _ [] rfl ?_
      refine ar_go M_Q_setRow 1 _ 40 _ [some (.ref 19), some (.int (nI row)), some (.long (lN x)), none, some (.long (lN sA)), none, some (.long (lN sB)), none, some (.int (nI u)), some (.int (nI l)), some (.ref (ro row)), some (.long (lN (tp sB x (i + 1)))), none, some (.int (nI i + Int32.ofInt 1)), none, none] _ [] rfl ?_
      rw [show nI i + Int32.ofInt 1 = nI (i + 1) from nI_add i 1]
      refine ar_go M_Q_setRow 1 _ 15 _ [some (.ref 19), some (.int (nI row)), some (.long (lN x)), none, some (.long (lN sA)), none, some (.long (lN sB)), none, some (.int (nI u)), some (.int (nI l)), some (.ref (ro row)), some (.long (lN (tp sB x (i + 1)))), none, some (.int (nI (i + 1))), none, none] _ [] rfl ?_
      exact ih (i + 1) _ (by omega) (by omega) hQ2 k1
theorem c_Q_s2_loop (X : am_X) (d : Nat) (h : am_H) {ro : Nat → Nat} {c row x sA sB s2 u l : Nat} {M : Nat → Nat → Nat} {A : Nat → Nat} {uk : Nat → Option Nat} {Q : Option Value → am_H → Prop} (hrow : row < 16) (hul : u + l < 17) (hx : x < 2147483648) (hsA : sA < 2147483647) (hsB : sB < 2147483647) (hA : lt17 A) (hs2 : s2 < 2147483647)
    (K : ∀ h1 : am_H, isQ h1 ro c (updM M row (r1 A s2 x u l)) uk → fr eqL h h1 → ar Pg X (d + 1) n_Q_setRow 85 [some (.ref 19), some (.int (nI row)), some (.long (lN x)), none, some (.long (lN sA)), none, some (.long (lN sB)), none, some (.int (nI u)), some (.int (nI l)), some (.ref (ro row)), some (.long (lN (tp sB x u))), none, some (.long (lN (tp s2 x l))), none, some (.int (nI l))] [] h1 Q) :
    ∀ (n i : Nat) (h1 : am_H), l - i < n → i ≤ l → isQ h1 ro c (updM M row (r1 A s2 x u i)) uk → fr eqL h h1 → ar Pg X (d + 1) n_Q_setRow 54 [some (.ref 19), some (.int (nI row)), some (.long (lN x)), none, some (.long (lN sA)), none, some (.long (lN sB)), none, some (.int (nI u)), some (.int (nI l)), some (.ref (ro row)), some (.long (lN (tp sB x u))), none, some (.long (lN (tp s2 x i))), none, some (.int (nI i))] [] h1 Q := by
  intro n
  induction n with
  | zero => intro i h1 hn; omega
  | succ n ih =>
    intro i h1 hn hi hQ hF
    have hQ0 := hQ
    obtain ⟨q1, ⟨g, q2, q3⟩, q4, q5, q6, q7⟩ := hQ0
    have hrb := q4.1 row hrow
    have hx1 := q5 row hrow
    rw [updM_s] at hx1
    refine ar_go M_Q_setRow 2 _ 58 _ [some (.ref 19), some (.int (nI row)), some (.long (lN x)), none, some (.long (lN sA)), none, some (.long (lN sB)), none, some (.int (nI u)), some (.int (nI l)), some (.ref (ro row)), some (.long (lN (tp sB x u))), none, some (.long (lN (tp s2 x i))), none, some (.int (nI i))] _ [.int (nI l), .int (nI i)] rfl ?_
    refine ar_icmp M_Q_setRow rfl rfl (fun hc => ?_) (fun hc => ?_)
    · have hc := c2_ge_t (a := i) (b := l) (by omega) (by omega) hc
      have hi2 : i = l := by omega
      rw [hi2] at hQ ⊢
      exact K h1 hQ hF
    · have hc := c2_ge_f (a := i) (b := l) (by omega) (by omega) hc
      have htp := tp_lt hs2 x i
      refine ar_go M_Q_setRow 4 _ 68 _ [some (.ref 19), some (.int (nI row)), some (.long (lN x)), none, some (.long (lN sA)), none, some (.long (lN sB)), none, some (.int (nI u)), some (.int (nI l)), some (.ref (ro row)), some (.long (lN (tp sB x u))), none, some (.long (lN (tp s2 x i))), none, some (.int (nI i))] _ [.int (nI u + nI i), .ref (ro row)] rfl ?_
      refine ar_top (w := .int (nI (u + i))) (congrArg Value.int (nI_add u i)) ?_
      refine ar_go M_Q_setRow 1 _ 70 _ [some (.ref 19), some (.int (nI row)), some (.long (lN x)), none, some (.long (lN sA)), none, some (.long (lN sB)), none, some (.int (nI u)), some (.int (nI l)), some (.ref (ro row)), some (.long (lN (tp sB x u))), none, some (.long (lN (tp s2 x i))), none, some (.int (nI i))] _ [.long (lN (tp s2 x i)), .int (nI (u + i)), .ref (ro row)] rfl ?_
      refine ar_last M_Q_setRow rfl hx1 (vp_in_nI (by omega) (by decide)) (fun h2 hf he => ?_)
      rw [nI_clamp (n := (u + i)) (by omega)] at he
      rw [updL_lN] at he
      have hx1 : h2[(ro row)]? = some (.inl (1, 17, .inr (.inl (fun z9 => lN ((updN (r1 A s2 x u i) (u + i) (tp s2 x i)) z9))))) := he
      have hQ2 := hQ.set hrow hf hx1 (r1_17 hA hs2 x u (i + 1))
      rw [updM_updM] at hQ2
      have k1 := hF.tr hf (l := eqL) (fun _ z => z) (eq_sub q4 hrow)
      refine ar_go M_Q_setRow 2 _ 74 _ [some (.ref 19), some (.int (nI row)), some (.long (lN x)), none, some (.long (lN sA)), none, some (.long (lN sB)), none, some (.int (nI u)), some (.int (nI l)), some (.ref (ro row)), some (.long (lN (tp sB x u))), none, some (.long (lN (tp s2 x i))), none, some (.int (nI i))] _ [.long (lN x), .long (lN (tp s2 x i))] rfl ?_
      refine ar_CS M_Q_setRow rfl rfl (Nat.le_of_ble_eq_true rfl) rfl rfl (Nat.le_of_ble_eq_true rfl) M_F_times (Nat.le_of_ble_eq_true rfl) (c_F_times X d _ (by omega) hx) (fun r1 h1 hq => ?_)
      obtain ⟨rfl, rfl⟩ := hq
      refine ⟨rfl, ?_⟩
      show ar Pg _ _ _ 77 [some (.ref 19), some (.int (nI row)), some (.long (lN x)), none, some (.long (lN sA)), none, some (.long (lN sB)), none, some (.int (nI u)), some (.int (nI l)), some (.ref (ro row)), some (.long (lN (tp sB x u))), none, some (.long (lN (tp s2 x i))), none, some (.int (nI i))] [.long (lN (tp s2 x (i + 1)))] _ _
      refine ar_go M_Q_setRow 1 _ 79 _ [some (.ref 19), some (.int (nI row)), some (.long (lN x)), none, some (.long (lN sA)), none, some (.long (lN sB)), none, some (.int (nI u)), some (.int (nI l)), some (.ref (ro row)), some (.long (lN (tp sB x u))), none, some (.long (lN (tp s2 x (i + 1)))), none, some (.int (nI i))] _ [] rfl ?_
      refine ar_go M_Q_setRow 1 _ 82 _ [some (.ref 19), some (.int (nI row)), some (.long (lN x)), none, some (.long (lN sA)), none, some (.long (lN sB)), none, some (.int (nI u)), some (.int (nI l)), some (.ref (ro row)), some (.long (lN (tp sB x u))), none, some (.long (lN (tp s2 x (i + 1)))), none, some (.int (nI i + Int32.ofInt 1))] _ [] rfl ?_
      rw [show nI i + Int32.ofInt 1 = nI (i + 1) from nI_add i 1]
      refine ar_go M_Q_setRow 1 _ 54 _ [some (.ref 19), some (.int (nI row)), some (.long (lN x)), none, some (.long (lN sA)), none, some (.long (lN sB)), none, some (.int (nI u)), some (.int (nI l)), some (.ref (ro row)), some (.long (lN (tp sB x u))), none, some (.long (lN (tp s2 x (i + 1)))), none, some (.int (nI (i + 1)))] _ [] rfl ?_
      exact ih (i + 1) _ (by omega) (by omega) hQ2 k1
theorem c_Q_setRow (X : am_X) (d : Nat) (h : am_H) {ro : Nat → Nat} {c row x sA sB u l : Nat} {M : Nat → Nat → Nat} {uk : Nat → Option Nat} (hQ : isQ h ro c M uk) (hrow : row < 16) (hul : u + l < 17) (hx : x < 2147483648) (hsA : sA < 2147483647) (hsB : sB < 2147483647) : ar Pg X (d + 1) n_Q_setRow 0 [some (.ref 19), some (.int (nI row)), some (.long (lN x)), none, some (.long (lN sA)), none, some (.long (lN sB)), none, some (.int (nI u)), some (.int (nI l)), none, none, none, none, none, none] [] h (fun rr h' => rr = none ∧ fr eqL h h' ∧ isQ h' ro c (updM M row (srw (M row) x sA sB u l)) uk) := by
  have hQ0 := hQ
  obtain ⟨q1, ⟨g, q2, q3⟩, q4, q5, q6, q7⟩ := hQ
  refine ar_go M_Q_setRow 1 _ 1 _ [some (.ref 19), some (.int (nI row)), some (.long (lN x)), none, some (.long (lN sA)), none, some (.long (lN sB)), none, some (.int (nI u)), some (.int (nI l)), none, none, none, none, none, none] _ [.ref 19] rfl ?_
  refine ar_get M_Q_setRow rfl rfl q1 rfl ?_
  refine ar_go M_Q_setRow 1 _ 5 _ [some (.ref 19), some (.int (nI row)), some (.long (lN x)), none, some (.long (lN sA)), none, some (.long (lN sB)), none, some (.int (nI u)), some (.int (nI l)), none, none, none, none, none, none] _ [.int (nI row), .ref 20] rfl ?_
  refine ar_aald M_Q_setRow rfl q2 (Or.inl rfl) (vp_in_nI (by omega) (by decide)) (by rw [nI_clamp (n := row) (by omega)]; exact q3 row (by omega)) ?_
  have hx1 := q5 row (by omega)
  refine ar_go M_Q_setRow 5 _ 15 _ [some (.ref 19), some (.int (nI row)), some (.long (lN x)), none, some (.long (lN sA)), none, some (.long (lN sB)), none, some (.int (nI u)), some (.int (nI l)), some (.ref (ro row)), some (.long (lN sB)), none, some (.int (nI 0)), none, none] _ [] rfl ?_
  refine c_Q_s1_loop X d h (M := M) (A := M row) hrow hul hx hsA hsB (q6 row hrow) ?_ (u + 1) 0 h (by omega) (by omega) (by rw [show r1 (M row) sB x 0 0 = M row from rfl, updM_self]; exact hQ0) (fr.rf _ _)
  intro h1 hQ1 hF1
  refine ar_go M_Q_setRow 2 _ 46 _ [some (.ref 19), some (.int (nI row)), some (.long (lN x)), none, some (.long (lN sA)), none, some (.long (lN sB)), none, some (.int (nI u)), some (.int (nI l)), some (.ref (ro row)), some (.long (lN (tp sB x u))), none, some (.int (nI u)), none, none] _ [.long (lN sA), .long (lN 0)] rfl ?_
  refine ar_CS M_Q_setRow rfl rfl (Nat.le_of_ble_eq_true rfl) rfl rfl (Nat.le_of_ble_eq_true rfl) M_F_minus (Nat.le_of_ble_eq_true rfl) (c_F_minus X d _ (by decide) (by omega) (by omega)) (fun r1 h1 hq => ?_)
  obtain ⟨rfl, rfl⟩ := hq
  refine ⟨rfl, ?_⟩
  show ar Pg _ _ _ 49 [some (.ref 19), some (.int (nI row)), some (.long (lN x)), none, some (.long (lN sA)), none, some (.long (lN sB)), none, some (.int (nI u)), some (.int (nI l)), some (.ref (ro row)), some (.long (lN (tp sB x u))), none, some (.int (nI u)), none, none] [.long (lN (ng sA))] _ _
  refine ar_go M_Q_setRow 3 _ 54 _ [some (.ref 19), some (.int (nI row)), some (.long (lN x)), none, some (.long (lN sA)), none, some (.long (lN sB)), none, some (.int (nI u)), some (.int (nI l)), some (.ref (ro row)), some (.long (lN (tp sB x u))), none, some (.long (lN (ng sA))), none, some (.int (nI 0))] _ [] rfl ?_
  refine c_Q_s2_loop X d h (M := M) (A := r1 (M row) sB x 0 u) hrow hul hx hsA hsB (r1_17 (q6 row hrow) hsB x 0 u) (ng_lt sA) ?_ (l + 1) 0 _ (by omega) (by omega) hQ1 hF1
  intro h3 hQ3 hF3
  have hQ4 := hQ3
  obtain ⟨-, -, q43, q53, -, -⟩ := hQ4
  have hrb := q43.1 row hrow
  have hx1 := q53 row hrow
  rw [updM_s] at hx1
  have t1 := tp_lt hsB x u
  have t2 := tp_lt (ng_lt sA) x l
  refine ar_go M_Q_setRow 4 _ 92 _ [some (.ref 19), some (.int (nI row)), some (.long (lN x)), none, some (.long (lN sA)), none, some (.long (lN sB)), none, some (.int (nI u)), some (.int (nI l)), some (.ref (ro row)), some (.long (lN (tp sB x u))), none, some (.long (lN (tp (ng sA) x l))), none, some (.int (nI l))] _ [.int (nI u + nI l), .ref (ro row)] rfl ?_
  refine ar_top (w := .int (nI (u + l))) (congrArg Value.int (nI_add u l)) ?_
  refine ar_go M_Q_setRow 3 _ 97 _ [some (.ref 19), some (.int (nI row)), some (.long (lN x)), none, some (.long (lN sA)), none, some (.long (lN sB)), none, some (.int (nI u)), some (.int (nI l)), some (.ref (ro row)), some (.long (lN (tp sB x u))), none, some (.long (lN (tp (ng sA) x l))), none, some (.int (nI l))] _ [.long (lN (tp (ng sA) x l)), .long (lN (tp sB x u)), .long (lN 0), .int (nI (u + l)), .ref (ro row)] rfl ?_
  refine ar_CS M_Q_setRow rfl rfl (Nat.le_of_ble_eq_true rfl) rfl rfl (Nat.le_of_ble_eq_true rfl) M_F_plus (Nat.le_of_ble_eq_true rfl) (c_F_plus X d _ (by omega) (by omega)) (fun r1 h1 hq => ?_)
  obtain ⟨rfl, rfl⟩ := hq
  refine ⟨rfl, ?_⟩
  have hmm : (tp sB x u + tp (ng sA) x l) % 2147483647 < 2147483647 := Nat.mod_lt _ (by decide)
  show ar Pg _ _ _ 100 [some (.ref 19), some (.int (nI row)), some (.long (lN x)), none, some (.long (lN sA)), none, some (.long (lN sB)), none, some (.int (nI u)), some (.int (nI l)), some (.ref (ro row)), some (.long (lN (tp sB x u))), none, some (.long (lN (tp (ng sA) x l))), none, some (.int (nI l))] [.long (lN ((tp sB x u + tp (ng sA) x l) % 2147483647)), .long (lN 0), .int (nI (u + l)), .ref (ro row)] _ _
  refine ar_CS M_Q_setRow rfl rfl (Nat.le_of_ble_eq_true rfl) rfl rfl (Nat.le_of_ble_eq_true rfl) M_F_minus (Nat.le_of_ble_eq_true rfl) (c_F_minus X d _ (by decide) (by omega) (by omega)) (fun r1 h1 hq => ?_)
  obtain ⟨rfl, rfl⟩ := hq
  refine ⟨rfl, ?_⟩
  show ar Pg _ _ _ 103 [some (.ref 19), some (.int (nI row)), some (.long (lN x)), none, some (.long (lN sA)), none, some (.long (lN sB)), none, some (.int (nI u)), some (.int (nI l)), some (.ref (ro row)), some (.long (lN (tp sB x u))), none, some (.long (lN (tp (ng sA) x l))), none, some (.int (nI l))] [.long (lN (ng ((tp sB x u + tp (ng sA) x l) % 2147483647))), .int (nI (u + l)), .ref (ro row)] _ _
  refine ar_last M_Q_setRow rfl hx1 (vp_in_nI (by omega) (by decide)) (fun h5 hf he => ?_)
  rw [nI_clamp (n := (u + l)) (by omega)] at he
  rw [updL_lN] at he
  have hx1 : h5[(ro row)]? = some (.inl (1, 17, .inr (.inl (fun z9 => lN ((updN (r1 (r1 (M row) sB x 0 u) (ng sA) x u l) (u + l) (ng ((tp sB x u + tp (ng sA) x l) % 2147483647))) z9))))) := he
  have hQ5 := hQ3.set hrow hf hx1 (srw_17 (q6 row hrow) hsB x sA u l)
  rw [updM_updM] at hQ5
  exact ar_R M_Q_setRow rfl rfl rfl rfl (⟨rfl, hF3.tr hf (fun _ z => z) (eq_sub q43 hrow), hQ5⟩)
def bs (A : Nat → Nat) (M : Nat → Nat → Nat) (uk : Nat → Option Nat) (c fst : Nat) : Nat → Nat → Nat
  | 0 => A
  | i + 1 => updN (bs A M uk c fst i) i (unk M uk c (fst + i))
theorem unk_lt {M : Nat → Nat → Nat} {uk : Nat → Option Nat} {c col : Nat} (hM : ∀ i, i < 16 → lt17 (M i)) (hc : c < 17) (hcol : col < 16) (huk : ∀ i r, i < 16 → uk i = some r → r < 16) : unk M uk c col < 2147483647 := by
  unfold unk
  cases hu : uk col with
  | none => show 0 < 2147483647; decide
  | some r => exact hM r (huk col r hcol hu) c hc
theorem c_Y_bs_loop (X : am_X) (d : Nat) (h : am_H) {ro : Nat → Nat} {y k c fs nd : Nat} {A : Nat → Nat} {M : Nat → Nat → Nat} {uk : Nat → Option Nat} (hy1 : y + 1 < 19) (hc : c < 17) (hnd : nd < 17) (hfn : fs + nd ≤ 16) (huk : ∀ i r, i < 16 → uk i = some r → r < 16) : ∀ (n i : Nat) (h1 : am_H) (B : Nat → Nat), nd - i < n → i ≤ nd → isYO h1 y k → isLA h1 (y + 1) 17 B → lt17 B → B = bs A M uk c fs i → isQ h1 ro c M uk → fr [y, y + 1] h h1 → ar Pg X (d + 1) n_Y_becomeSolution 3 [some (.ref y), some (.ref 19), some (.int (nI fs)), some (.int (nI nd)), some (.int (nI i))] [] h1 (fun rr h' => rr = none ∧ fr [y, y + 1] h h' ∧ isP h' y (nd + 1) (updN (bs A M uk c fs nd) nd 1)) := by
  intro n
  induction n with
  | zero => intro i h1 B hn; omega
  | succ n ih =>
    intro i h1 B hn hi hy ha hl hB hQ hF
    unfold isYO at hy
    unfold isLA at ha
    refine ar_go M_Y_becomeSolution 2 _ 6 _ [some (.ref y), some (.ref 19), some (.int (nI fs)), some (.int (nI nd)), some (.int (nI i))] _ [.int (nI nd), .int (nI i)] rfl ?_
    refine ar_icmp M_Y_becomeSolution rfl rfl (fun hc1 => ?_) (fun hc1 => ?_)
    · have hc1 := c2_ge_t (a := i) (b := nd) (by omega) (by omega) hc1
      have hi2 : i = nd := by omega
      rw [hi2] at hB
      refine ar_go M_Y_becomeSolution 1 _ 31 _ [some (.ref y), some (.ref 19), some (.int (nI fs)), some (.int (nI nd)), some (.int (nI i))] _ [.ref y] rfl ?_
      refine ar_get M_Y_becomeSolution rfl rfl hy rfl ?_
      refine ar_go M_Y_becomeSolution 2 _ 36 _ [some (.ref y), some (.ref 19), some (.int (nI fs)), some (.int (nI nd)), some (.int (nI i))] _ [.long (lN 1), .int (nI nd), .ref (y + 1)] rfl ?_
      refine ar_last M_Y_becomeSolution rfl ha (vp_in_nI (by omega) (by decide)) (fun h2 hf he => ?_)
      rw [nI_clamp (n := nd) (by omega)] at he
      rw [updL_lN] at he
      have hy := hf.at hy (by simp only [List.mem_cons, List.not_mem_nil, or_false]; omega)
      have ha : h2[(y + 1)]? = some (.inl (1, 17, .inr (.inl (fun z9 => lN ((updN B nd 1) z9))))) := he
      have k1 := hf
      refine ar_go M_Y_becomeSolution 2 _ 39 _ [some (.ref y), some (.ref 19), some (.int (nI fs)), some (.int (nI nd)), some (.int (nI i))] _ [.int (nI nd), .ref y] rfl ?_
      refine ar_put M_Y_becomeSolution rfl rfl hy (Nat.le_of_ble_eq_true rfl) rfl (Nat.le_of_ble_eq_true rfl) (fun h3 hf he => ?_)
      have ha := hf.at ha (by simp only [List.mem_cons, List.not_mem_nil, or_false]; omega)
      have hy : h3[y]? = some (.inr (2, [.ref (y + 1), .int (nI nd)])) := he
      exact ar_R M_Y_becomeSolution rfl rfl rfl rfl (⟨rfl, hF.tr (k1.tr hf (l := [y, y + 1]) (by simp) (by simp)) (by simp) (by simp), by omega, hy, by rw [← hB]; exact ha, by rw [← hB]; exact hl.up nd (v := 1) (by decide)⟩)
    · have hc1 := c2_ge_f (a := i) (b := nd) (by omega) (by omega) hc1
      refine ar_go M_Y_becomeSolution 1 _ 10 _ [some (.ref y), some (.ref 19), some (.int (nI fs)), some (.int (nI nd)), some (.int (nI i))] _ [.ref y] rfl ?_
      refine ar_get M_Y_becomeSolution rfl rfl hy rfl ?_
      refine ar_go M_Y_becomeSolution 5 _ 20 _ [some (.ref y), some (.ref 19), some (.int (nI fs)), some (.int (nI nd)), some (.int (nI i))] _ [.int (nI fs + nI i), .ref 19, .int (nI i), .ref (y + 1)] rfl ?_
      refine ar_top (w := .int (nI (fs + i))) (congrArg Value.int (nI_add fs i)) ?_
      refine ar_CV M_Y_becomeSolution rfl rfl (Or.inl rfl) rfl rfl (Nat.le_of_ble_eq_true rfl) hQ.1 M_Q_unknown (Nat.le_of_ble_eq_true rfl) (c_Q_unknown X d _ hQ hc (by omega) huk) (fun r1 h1 hq => ?_)
      obtain ⟨rfl, rfl⟩ := hq
      refine ⟨rfl, ?_⟩
      show ar Pg _ _ _ 23 [some (.ref y), some (.ref 19), some (.int (nI fs)), some (.int (nI nd)), some (.int (nI i))] [.long (lN (unk M uk c (fs + i))), .int (nI i), .ref (y + 1)] _ _
      refine ar_last M_Y_becomeSolution rfl ha (vp_in_nI (by omega) (by decide)) (fun h2 hf he => ?_)
      rw [nI_clamp (n := i) (by omega)] at he
      rw [updL_lN] at he
      have hy := hf.at hy (by simp only [List.mem_cons, List.not_mem_nil, or_false]; omega)
      have ha : h2[(y + 1)]? = some (.inl (1, 17, .inr (.inl (fun z9 => lN ((updN B i (unk M uk c (fs + i))) z9))))) := he
      refine ar_go M_Y_becomeSolution 1 _ 27 _ [some (.ref y), some (.ref 19), some (.int (nI fs)), some (.int (nI nd)), some (.int (nI i + Int32.ofInt 1))] _ [] rfl ?_
      rw [show nI i + Int32.ofInt 1 = nI (i + 1) from nI_add i 1]
      refine ar_go M_Y_becomeSolution 1 _ 3 _ [some (.ref y), some (.ref 19), some (.int (nI fs)), some (.int (nI nd)), some (.int (nI (i + 1)))] _ [] rfl ?_
      exact ih (i + 1) h2 _ (by omega) (by omega) hy ha (hl.up _ (unk_lt hQ.2.2.2.2.1 hc (by omega) huk)) (by rw [bs, hB]) (hQ.mv hf (by intro k h1 h2; simp; omega)) (hF.tr hf (by simp) (by simp))
theorem c_Y_becomeSolution (X : am_X) (d : Nat) (h : am_H) {ro : Nat → Nat} {y k c fs nd : Nat} {A : Nat → Nat} {M : Nat → Nat → Nat} {uk : Nat → Option Nat} (hP : isP h y k A) (hQ : isQ h ro c M uk) (hy1 : y + 1 < 19) (hc : c < 17) (hnd : nd < 17) (hfn : fs + nd ≤ 16) (huk : ∀ i r, i < 16 → uk i = some r → r < 16) : ar Pg X (d + 1) n_Y_becomeSolution 0 [some (.ref y), some (.ref 19), some (.int (nI fs)), some (.int (nI nd)), none] [] h (fun rr h' => rr = none ∧ fr [y, y + 1] h h' ∧ isP h' y (nd + 1) (updN (bs A M uk c fs nd) nd 1)) := by
  refine ar_go M_Y_becomeSolution 2 _ 3 _ [some (.ref y), some (.ref 19), some (.int (nI fs)), some (.int (nI nd)), some (.int (nI 0))] _ [] rfl ?_
  exact c_Y_bs_loop X d h hy1 hc hnd hfn huk (nd + 1) 0 h A (by omega) (by omega) hP.2.1 hP.2.2.1 hP.2.2.2 rfl hQ (fr.rf _ _)
