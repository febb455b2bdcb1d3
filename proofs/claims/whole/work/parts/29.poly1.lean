/-! Polynomials in their cells: k factors, the array as a function to the natural numbers -/
def updN (A : Nat → Nat) (j v : Nat) : Nat → Nat := fun i => if i = j then v else A i
theorem updN_s (A : Nat → Nat) (j v : Nat) : updN A j v j = v := by simp [updN]
theorem updN_n (A : Nat → Nat) {i j : Nat} (v : Nat) (h : i ≠ j) : updN A j v i = A i := by simp [updN, h]
theorem updL_lN (A : Nat → Nat) (j v : Nat) : vp_updL (fun i => lN (A i)) j (lN v) = fun i => lN (updN A j v i) := by
  funext i
  unfold vp_updL updN
  split <;> rfl
/-- the number k - 1 -/
def dI (k : Nat) : Int32 := match k with
  | 0 => -1
  | k + 1 => nI k
theorem dI_pred (k : Nat) : nI k + Int32.ofInt (-1) = dI k := by
  cases k with
  | zero => decide
  | succ k => exact pk_m1 k
def isLA (h : am_H) (y n : Nat) (A : Nat → Nat) : Prop := h[y]? = some (.inl (1, n, .inr (.inl (fun i => lN (A i)))))
def isYO (h : am_H) (y k : Nat) : Prop := h[y]? = some (.inr (2, [.ref (y + 1), .int (dI k)]))
def lt17 (A : Nat → Nat) : Prop := ∀ i, i < 17 → A i < 2147483647
/-- a Polynomial at y: k factors, in the array A -/
def isP (h : am_H) (y k : Nat) (A : Nat → Nat) : Prop := k ≤ 17 ∧ isYO h y k ∧ isLA h (y + 1) 17 A ∧ lt17 A
theorem isP.fr {h h1 : am_H} {y k : Nat} {A : Nat → Nat} {s : List Nat} (hP : isP h y k A) (hf : fr s h h1) (h0 : y ∉ s) (h1' : y + 1 ∉ s) : isP h1 y k A := ⟨hP.1, hf.at hP.2.1 h0, hf.at hP.2.2.1 h1', hP.2.2.2⟩
/-- Horner over n factors from j on -/
def hvS (A : Nat → Nat) (x : Nat) : Nat → Nat → Nat
  | 0, _ => 0
  | n + 1, j => (hvS A x n (j + 1) * x % 2147483647 + A j) % 2147483647
theorem hvS_lt (A : Nat → Nat) (x : Nat) : ∀ n j, hvS A x n j < 2147483647
  | 0, j => by show 0 < 2147483647; decide
  | n + 1, j => Nat.mod_lt _ (by decide)
theorem c_Y_va_loop (X : am_X) (d : Nat) (h : am_H) {y k x : Nat} {A : Nat → Nat} (hP : isP h y k A) (hys : y < 1000) (hx : x < 2147483648) : ∀ (j : Nat), j ≤ k → ar Pg X (d + 1) n_Y_valueAt 8 [some (.ref y), some (.long (lN x)), none, some (.long (lN (hvS A x (k - j) j))), none, some (.int (dI j))] [] h (fun rr h' => rr = some (.long (lN (hvS A x k 0))) ∧ h' = h) := by
  obtain ⟨hk17, hy, ha, hl17⟩ := hP
  unfold isYO at hy
  unfold isLA at ha
  intro j
  induction j with
  | zero =>
    intro hj
    refine ar_go M_Y_valueAt 1 _ 10 _ [some (.ref y), some (.long (lN x)), none, some (.long (lN (hvS A x (k - 0) 0))), none, some (.int (dI 0))] _ [.int (-1)] rfl ?_
    refine ar_if M_Y_valueAt rfl rfl (fun _ => ?_) (fun z => absurd z (by decide))
    refine ar_go M_Y_valueAt 1 _ 36 _ [some (.ref y), some (.long (lN x)), none, some (.long (lN (hvS A x (k - 0) 0))), none, some (.int (dI 0))] _ [.long (lN (hvS A x (k - 0) 0))] rfl ?_
    exact ar_R M_Y_valueAt rfl rfl rfl rfl ⟨rfl, rfl⟩
  | succ j ih =>
    intro hj
    refine ar_go M_Y_valueAt 1 _ 10 _ [some (.ref y), some (.long (lN x)), none, some (.long (lN (hvS A x (k - (j + 1)) (j + 1)))), none, some (.int (nI j))] _ [.int (nI j)] rfl ?_
    refine ar_if M_Y_valueAt rfl rfl (fun hc => absurd (of_decide_eq_true hc) (nI_pos (by omega))) (fun _ => ?_)
    refine ar_go M_Y_valueAt 2 _ 15 _ [some (.ref y), some (.long (lN x)), none, some (.long (lN (hvS A x (k - (j + 1)) (j + 1)))), none, some (.int (nI j))] _ [.long (lN x), .long (lN (hvS A x (k - (j + 1)) (j + 1)))] rfl ?_
    refine ar_CS M_Y_valueAt rfl rfl (Nat.le_of_ble_eq_true rfl) rfl rfl (Nat.le_of_ble_eq_true rfl) M_F_times (Nat.le_of_ble_eq_true rfl) (c_F_times X d _ (Nat.lt_trans (hvS_lt A x _ _) (by decide)) hx) (fun r1 h1 hq => ?_)
    obtain ⟨rfl, rfl⟩ := hq
    refine ⟨rfl, ?_⟩
    show ar Pg _ _ _ 18 [some (.ref y), some (.long (lN x)), none, some (.long (lN (hvS A x (k - (j + 1)) (j + 1)))), none, some (.int (nI j))] [.long (lN (hvS A x (k - (j + 1)) (j + 1) * x % 2147483647))] _ _
    have haj := hl17 j (by omega)
    refine ar_go M_Y_valueAt 1 _ 19 _ [some (.ref y), some (.long (lN x)), none, some (.long (lN (hvS A x (k - (j + 1)) (j + 1)))), none, some (.int (nI j))] _ [.ref y, .long (lN (hvS A x (k - (j + 1)) (j + 1) * x % 2147483647))] rfl ?_
    refine ar_get M_Y_valueAt rfl rfl hy rfl ?_
    refine ar_go M_Y_valueAt 1 _ 24 _ [some (.ref y), some (.long (lN x)), none, some (.long (lN (hvS A x (k - (j + 1)) (j + 1)))), none, some (.int (nI j))] _ [.int (nI j), .ref (y + 1), .long (lN (hvS A x (k - (j + 1)) (j + 1) * x % 2147483647))] rfl ?_
    refine ar_lald M_Y_valueAt rfl ha (vp_in_nI (by omega) (by decide)) ?_
    rw [nI_clamp (n := j) (by omega)]
    refine ar_CS M_Y_valueAt rfl rfl (Nat.le_of_ble_eq_true rfl) rfl rfl (Nat.le_of_ble_eq_true rfl) M_F_plus (Nat.le_of_ble_eq_true rfl) (c_F_plus X d _ (Nat.lt_trans (Nat.mod_lt _ (by decide)) (by decide)) (by omega)) (fun r1 h1 hq => ?_)
    obtain ⟨rfl, rfl⟩ := hq
    refine ⟨rfl, ?_⟩
    rw [show (hvS A x (k - (j + 1)) (j + 1) * x % 2147483647 + A j) % 2147483647 = hvS A x (k - j) j by rw [show k - j = k - (j + 1) + 1 by omega]; rfl]
    show ar Pg _ _ _ 28 [some (.ref y), some (.long (lN x)), none, some (.long (lN (hvS A x (k - (j + 1)) (j + 1)))), none, some (.int (nI j))] [.long (lN (hvS A x (k - j) j))] _ _
    refine ar_go M_Y_valueAt 1 _ 29 _ [some (.ref y), some (.long (lN x)), none, some (.long (lN (hvS A x (k - j) j))), none, some (.int (nI j))] _ [] rfl ?_
    refine ar_go M_Y_valueAt 1 _ 32 _ [some (.ref y), some (.long (lN x)), none, some (.long (lN (hvS A x (k - j) j))), none, some (.int (nI j + Int32.ofInt (-1)))] _ [] rfl ?_
    rw [show nI j + Int32.ofInt (-1) = dI j from dI_pred j]
    refine ar_go M_Y_valueAt 1 _ 8 _ [some (.ref y), some (.long (lN x)), none, some (.long (lN (hvS A x (k - j) j))), none, some (.int (dI j))] _ [] rfl ?_
    exact ih (by omega)
theorem c_Y_valueAt (X : am_X) (d : Nat) (h : am_H) {y k x : Nat} {A : Nat → Nat} (hP : isP h y k A) (hys : y < 1000) (hx : x < 2147483648) : ar Pg X (d + 1) n_Y_valueAt 0 [some (.ref y), some (.long (lN x)), none, none, none, none] [] h (fun rr h' => rr = some (.long (lN (hvS A x k 0))) ∧ h' = h) := by
  have hP0 := hP
  obtain ⟨hk17, hy, ha, hl17⟩ := hP
  unfold isYO at hy
  unfold isLA at ha
  refine ar_go M_Y_valueAt 3 _ 3 _ [some (.ref y), some (.long (lN x)), none, some (.long (lN 0)), none, none] _ [.ref y] rfl ?_
  refine ar_get M_Y_valueAt rfl rfl hy rfl ?_
  refine ar_go M_Y_valueAt 1 _ 8 _ [some (.ref y), some (.long (lN x)), none, some (.long (lN 0)), none, some (.int (dI k))] _ [] rfl ?_
  have := c_Y_va_loop X d h hP0 hys hx k (Nat.le_refl _)
  rw [Nat.sub_self] at this
  exact this
theorem c_Y_become (X : am_X) (d : Nat) (h : am_H) {y z k k2 : Nat} {A A2 : Nat → Nat} (hP : isP h y k A) (hP2 : isP h z k2 A2) (hys : y < 1000) (hzs : z < 1000) (hap : z + 2 ≤ y ∨ y + 2 ≤ z) : ar Pg X (d + 1) n_Y_become 0 [some (.ref y), some (.ref z)] [] h (fun rr h' => rr = none ∧ fr [y, y + 1] h h' ∧ isP h' y k2 (va_cpy A2 A 0 0 17) ∧ ∀ i, i < 17 → va_cpy A2 A 0 0 17 i = A2 i) := by
  obtain ⟨hk17, hy, ha, hl17⟩ := hP
  obtain ⟨hk2, hy2, ha2, hl2⟩ := hP2
  unfold isYO at hy hy2
  unfold isLA at ha ha2
  refine ar_go M_Y_become 1 _ 1 _ [some (.ref y), some (.ref z)] _ [.ref z] rfl ?_
  refine ar_get M_Y_become rfl rfl hy2 rfl ?_
  refine ar_go M_Y_become 2 _ 6 _ [some (.ref y), some (.ref z)] _ [.ref y, .int (nI 0), .ref (z + 1)] rfl ?_
  refine ar_get M_Y_become rfl rfl hy rfl ?_
  refine ar_go M_Y_become 2 _ 11 _ [some (.ref y), some (.ref z)] _ [.ref y, .int (nI 0), .ref (y + 1), .int (nI 0), .ref (z + 1)] rfl ?_
  refine ar_get M_Y_become rfl rfl hy rfl ?_
  refine ar_alen M_Y_become rfl (by unfold am_x0; omega) ha (by decide) ?_
  refine ar_cpyl M_Y_become rfl rfl (Nat.succ_pos _) (Nat.le_of_ble_eq_true rfl) ha2 ha (by decide) (by decide) (by decide) (by decide) (by decide) (fun h2 hf he => ?_)
  have hy := hf.at hy (by simp)
  have hy2 := hf.at hy2 (by simp; omega)
  have k1 := hf
  have hcp : isLA h2 (y + 1) 17 (va_cpy A2 A 0 0 17) := by
    unfold isLA
    have e0 : va_cpy (fun i => lN (A2 i)) (fun i => lN (A i)) (nI 0).toNatClampNeg (nI 0).toNatClampNeg (nI 17).toNatClampNeg = fun i => lN (va_cpy A2 A 0 0 17 i) := by
      rw [nI_clamp (n := 0) (by decide), nI_clamp (n := 17) (by decide)]
      funext i
      unfold va_cpy
      split <;> rfl
    rw [he, e0]
  refine ar_go M_Y_become 2 _ 20 _ [some (.ref y), some (.ref z)] _ [.ref z, .ref y] rfl ?_
  refine ar_get M_Y_become rfl rfl hy2 rfl ?_
  refine ar_put M_Y_become rfl rfl hy (Nat.le_of_ble_eq_true rfl) rfl (Nat.le_of_ble_eq_true rfl) (fun h3 hf he => ?_)
  have hy2 := hf.at hy2 (by simp only [List.mem_cons, List.not_mem_nil, or_false]; omega)
  have hy : h3[y]? = some (.inr (2, [.ref (y + 1), .int (dI k2)])) := he
  exact ar_R M_Y_become rfl rfl rfl rfl (⟨rfl, k1.tr hf (by simp) (by simp), ⟨hk2, hy, hf.at hcp (by simp), fun i hi => by rw [pk_cpy_in (Nat.zero_le _) (by omega)]; exact hl2 _ (by omega)⟩, fun i hi => by rw [pk_cpy_in (Nat.zero_le _) (by omega)]; congr 1; omega⟩)
