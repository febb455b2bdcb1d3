/-! taking over: the reference's one list is the class's two parcels -/
theorem en_get (p : Bk) {i : Nat} (h : i < p.length) : p[i]? = some (en p i) := by
  have e : p[i]? = some p[i] := List.getElem?_eq_getElem h
  rw [e]
  have : p.getD i (0, 0, false) = p[i] := by
    rw [List.getD_eq_getElem?_getD, e]
    rfl
  unfold en wd gd dd
  rw [this]
theorem fil_all (R : Nat × Int32 × Bool → Bool) (p : Bk) : ∀ n, n ≤ p.length → fil (fun i => R (en p i)) p n = (p.take n).filter R
  | 0, _ => by
    rw [fil, List.take_zero]
    rfl
  | n + 1, h => by
    have ih := fil_all R p n (by omega)
    have e : p.take (n + 1) = p.take n ++ [en p n] := by
      rw [List.take_add_one, en_get p (show n < p.length by omega)]
      rfl
    rw [fil, ih, e, List.filter_append]
    by_cases hR : R (en p n) = true
    · rw [if_pos hR, List.filter_cons_of_pos hR, List.filter_nil]
    · rw [if_neg hR, List.filter_cons_of_neg hR, List.filter_nil]
theorem fil_and (R : Nat × Int32 × Bool → Bool) (Q : Nat → Bool) (p : Bk) : ∀ n, fil (fun i => Q i && R (en p i)) p n = (fil Q p n).filter R
  | 0 => rfl
  | n + 1 => by
    have ih := fil_and R Q p n
    rw [fil, fil, ih, List.filter_append]
    by_cases hQ : Q n = true
    · rw [if_pos hQ]
      by_cases hR : R (en p n) = true
      · rw [if_pos (by rw [hQ, hR]; rfl), List.filter_cons_of_pos hR, List.filter_nil]
      · rw [if_neg (by rw [hQ, Bool.true_and]; exact hR), List.filter_cons_of_neg hR, List.filter_nil]
    · rw [if_neg hQ, if_neg (by simp [hQ]), List.filter_nil]
def kE (l : Bk) (e : Nat × Int32 × Bool) : Bool := !hasAt l (pos l (e.1 / 1024)) (e.1 / 1024) || decide (wd l (pos l (e.1 / 1024)) < e.1)
theorem knB_kE (p l : Bk) : knB p l = fun i => kE l (en p i) := rfl
theorem kn_kE (p l : Bk) : kn p l = p.filter (kE l) := by
  rw [kn, knB_kE, fil_all (kE l) p p.length (Nat.le_refl _), List.take_length]
def nwZ (B : Nat → Bk) (P : Nat → Bool) (t b i : Nat) : Tk := tkL t (fil (fun j => P j && knB (B b) (B t) j) (B b) i)
theorem nwZ_kn (B : Nat → Bk) (P : Nat → Bool) (t b n : Nat) : nwZ B P t b n = tkL t (kn (fil P (B b) n) (B t)) := by
  rw [nwZ, knB_kE, fil_and, kn_kE]
theorem nwL_kn (B : Nat → Bk) (t b : Nat) : nwL B t b (B b).length = tkL t (kn (alB (B b)) (B t)) := by
  rw [nwL, kn_kE, alB, knB_kE, fil_all (kE (B t)) (B b) _ (Nat.le_refl _)]
  have e := fil_all (fun _ => true) (B b) (B b).length (Nat.le_refl _)
  rw [e, List.filter_eq_self.mpr (fun _ _ => rfl)]
theorem nwZ_len (B : Nat → Bk) (P : Nat → Bool) (t b i : Nat) : (nwZ B P t b i).length ≤ i := by
  unfold nwZ tkL
  rw [List.length_map]
  exact fil_len _ _ _
theorem nwZ_t (T : Tk) (B : Nat → Bk) {P : Nat → Bool} (t b : Nat) {i : Nat} (h : P i = true) : ofT (T ++ nwZ B P t b i) B t b i = T ++ nwZ B P t b (i + 1) := by
  unfold ofT nwZ tkL
  rw [List.append_assoc, fil, List.map_append]
  by_cases hk : knB (B b) (B t) i = true
  · rw [if_pos hk, if_pos (by rw [h, hk]; rfl)]
    rfl
  · rw [if_neg hk, if_neg (by rw [h, Bool.true_and]; exact hk)]
    rfl
theorem nwZ_f (B : Nat → Bk) {P : Nat → Bool} (t b : Nat) {i : Nat} (h : ¬ P i = true) : nwZ B P t b (i + 1) = nwZ B P t b i := by
  unfold nwZ
  rw [fil, if_neg (by simp [h]), List.append_nil]
theorem okT_nz {T : Tk} {B : Nat → Bk} {P : Nat → Bool} (h : okT T) {t b : Nat} (ht : t < 4) (hV : bkV (B b)) : ∀ i, i ≤ (B b).length → okT (T ++ nwZ B P t b i)
  | 0, _ => by
    rw [show nwZ B P t b 0 = [] from rfl, List.append_nil]
    exact h
  | i + 1, hi => by
    by_cases hP : P i = true
    · rw [← nwZ_t T B t b hP]
      exact okT_of (okT_nz h ht hV i (by omega)) ht hV (by omega)
    · rw [nwZ_f B t b hP]
      exact okT_nz h ht hV i (by omega)
theorem tkL_len (t : Nat) (l : Bk) : (tkL t l).length = l.length := by
  unfold tkL
  rw [List.length_map]
theorem tkL_at (t : Nat) (X : Bk) (R : Tk) {i : Nat} (h : i < X.length) : tkr (tkL t X ++ R) i = t ∧ ten (tkL t X ++ R) i = en X i := by
  have : (tkL t X ++ R).getD i (0, 0, 0, false) = (t, en X i) := by
    rw [List.getD_eq_getElem?_getD, List.getElem?_append_left (by rw [tkL_len]; exact h)]
    unfold tkL
    rw [List.getElem?_map, en_get X h]
    rfl
  unfold tkr ten
  rw [this]
  exact ⟨rfl, rfl⟩
theorem tkR_at (R : Tk) (t : Nat) (Y : Bk) {i : Nat} (h : i < Y.length) : tkr (R ++ tkL t Y) (R.length + i) = t ∧ ten (R ++ tkL t Y) (R.length + i) = en Y i := by
  have : (R ++ tkL t Y).getD (R.length + i) (0, 0, 0, false) = (t, en Y i) := by
    rw [List.getD_eq_getElem?_getD, List.getElem?_append_right (by omega), show R.length + i - R.length = i by omega]
    unfold tkL
    rw [List.getElem?_map, en_get Y h]
    rfl
  unfold tkr ten
  rw [this]
  exact ⟨rfl, rfl⟩
theorem cntB_cg {P Q : Nat → Bool} : ∀ n, (∀ i, i < n → P i = Q i) → cntB P n = cntB Q n
  | 0, _ => rfl
  | n + 1, h => by rw [cntB, cntB, cntB_cg n (fun i hi => h i (by omega)), h n (by omega)]
theorem cntB_z {P : Nat → Bool} : ∀ n, (∀ i, i < n → P i = false) → cntB P n = 0
  | 0, _ => rfl
  | n + 1, h => by
    rw [cntB, cntB_z n (fun i hi => h i (by omega)), h n (by omega)]
    rfl
theorem cntB_app (P : Nat → Bool) (k : Nat) : ∀ n, cntB P (k + n) = cntB P k + cntB (fun i => P (k + i)) n
  | 0 => rfl
  | n + 1 => by
    rw [show k + (n + 1) = k + n + 1 by omega, cntB, cntB, cntB_app P k n]
    omega
/-- what the two parcels are for the list -/
theorem tk_two {B : Nat → Bk} {a b : Nat} (hab : a ≠ b) (X Y : Bk) (c : Nat) : cntB (nvT B (tkL b X ++ tkL a Y) c) (tkL b X ++ tkL a Y).length = (if c = b then cntB (nwB (B b) X) X.length else 0) + (if c = a then cntB (nwB (B a) Y) Y.length else 0) := by
  have e1 : ∀ i, i < X.length → nvT B (tkL b X ++ tkL a Y) c i = (decide (b = c) && nwB (B c) X i) := by
    intro i hi
    obtain ⟨h1, h2⟩ := tkL_at b X (tkL a Y) hi
    unfold nvT
    rw [h1, h2]
    rfl
  have e2 : ∀ i, i < Y.length → nvT B (tkL b X ++ tkL a Y) c (X.length + i) = (decide (a = c) && nwB (B c) Y i) := by
    intro i hi
    obtain ⟨h1, h2⟩ := tkR_at (tkL b X) a Y hi
    rw [tkL_len] at h1 h2
    unfold nvT
    rw [h1, h2]
    rfl
  rw [List.length_append, tkL_len, tkL_len, cntB_app, cntB_cg _ e1, cntB_cg _ e2]
  by_cases hb : c = b
  · subst hb
    rw [if_pos rfl, if_neg (fun z => hab z.symm), cntB_cg (Q := nwB (B c) X) _ (fun i _ => by rw [decide_eq_true rfl, Bool.true_and]), cntB_z (P := fun i => decide (a = c) && nwB (B c) Y i) _ (fun i _ => by rw [decide_eq_false hab, Bool.false_and])]
  · rw [if_neg hb, cntB_z (P := fun i => decide (b = c) && nwB (B c) X i) _ (fun i _ => by rw [decide_eq_false (fun z => hb z.symm), Bool.false_and])]
    by_cases ha : c = a
    · subst ha
      rw [if_pos rfl, cntB_cg (Q := nwB (B c) Y) _ (fun i _ => by rw [decide_eq_true rfl, Bool.true_and])]
    · rw [if_neg ha, cntB_z (P := fun i => decide (a = c) && nwB (B c) Y i) _ (fun i _ => by rw [decide_eq_false (fun z => ha z.symm), Bool.false_and])]
theorem tk_ov {B : Nat → Bk} {a b : Nat} (ha : a < 4) (hb : b < 4) (hab : a ≠ b) (hB : ∀ c, c < 4 → (B c).length ≤ 64) (p1 p2 : Bk) : (∀ c, c < 4 → ovT B (tkL b (kn p2 (B b)) ++ tkL a (kn p1 (B a))) c = false) ↔ dlF (B a) (B b) p1 p2 = false := by
  unfold dlF
  rw [Bool.or_eq_false_iff]
  constructor
  · intro h
    have h1 := h a ha
    have h2 := h b hb
    unfold ovT at h1 h2
    rw [tk_two hab, if_neg hab, if_pos rfl, Nat.zero_add] at h1
    rw [tk_two hab, if_pos rfl, if_neg (fun z => hab z.symm), Nat.add_zero] at h2
    exact ⟨h1, h2⟩
  · intro h c hc
    obtain ⟨h1, h2⟩ := h
    unfold ovf at h1 h2
    have h1 := of_decide_eq_false h1
    have h2 := of_decide_eq_false h2
    unfold ovT
    apply decide_eq_false
    have := hB c hc
    rw [tk_two hab]
    by_cases e1 : c = b
    · subst e1
      rw [if_pos rfl, if_neg (fun z => hab z.symm)]
      omega
    · rw [if_neg e1]
      by_cases e2 : c = a
      · subst e2
        rw [if_pos rfl]
        omega
      · rw [if_neg e2]
        omega
theorem tB_cg {B : Nat → Bk} {T R : Tk} : ∀ n, (∀ i, i < n → tkr T i = tkr R i ∧ ten T i = ten R i) → tB B T n = tB B R n
  | 0, _ => rfl
  | n + 1, h => by
    obtain ⟨h1, h2⟩ := h n (by omega)
    rw [tB, tB, tB_cg n (fun i hi => h i (by omega)), h1, h2]
theorem uB_s (B : Nat → Bk) (b : Nat) (l : Bk) : updB B b l b = l := by unfold updB; rw [if_pos rfl]
theorem uB_n (B : Nat → Bk) {b c : Nat} (l : Bk) (h : c ≠ b) : updB B b l c = B c := by unfold updB; rw [if_neg h]
theorem uB_2 (B : Nat → Bk) (b : Nat) (l m : Bk) : updB (updB B b l) b m = updB B b m := by
  funext c
  by_cases h : c = b
  · rw [h, uB_s, uB_s]
  · rw [uB_n _ _ h, uB_n _ _ h, uB_n _ _ h]
theorem uB_id (B : Nat → Bk) (b : Nat) : updB B b (B b) = B := by
  funext c
  by_cases h : c = b
  · rw [h, uB_s]
  · rw [uB_n _ _ h]
theorem uB_cm (B : Nat → Bk) {a b : Nat} (h : a ≠ b) (l m : Bk) : updB (updB B a l) b m = updB (updB B b m) a l := by
  funext c
  by_cases h1 : c = a
  · subst h1
    rw [uB_n _ _ h, uB_s, uB_s]
  · by_cases h2 : c = b
    · subst h2
      rw [uB_s, uB_n _ _ h1, uB_s]
    · rw [uB_n _ _ h2, uB_n _ _ h1, uB_n _ _ h1, uB_n _ _ h2]
theorem tB_one (B : Nat → Bk) (t : Nat) (X : Bk) (R : Tk) : ∀ n, n ≤ X.length → tB B (tkL t X ++ R) n = updB B t (stA (B t) X n)
  | 0, _ => by
    rw [tB, stA, uB_id]
  | n + 1, h => by
    obtain ⟨h1, h2⟩ := tkL_at t X R (show n < X.length by omega)
    rw [tB, tB_one B t X R n (by omega), h1, h2, uB_s, uB_2, stA]
theorem tB_two (B : Nat → Bk) (R : Tk) (t : Nat) (Y : Bk) : ∀ n, n ≤ Y.length → tB B (R ++ tkL t Y) (R.length + n) = updB (tB B (R ++ tkL t Y) R.length) t (stA (tB B (R ++ tkL t Y) R.length t) Y n)
  | 0, _ => by
    rw [Nat.add_zero, stA, uB_id]
  | n + 1, h => by
    obtain ⟨h1, h2⟩ := tkR_at R t Y (show n < Y.length by omega)
    rw [show R.length + (n + 1) = R.length + n + 1 by omega, tB, tB_two B R t Y n (by omega), h1, h2, uB_s, uB_2, stA]
theorem tk_tB {B : Nat → Bk} {a b : Nat} (hab : a ≠ b) (X Y : Bk) : tB B (tkL b X ++ tkL a Y) (tkL b X ++ tkL a Y).length = updB (updB B a (stA (B a) Y Y.length)) b (stA (B b) X X.length) := by
  rw [List.length_append, tkL_len a Y, tB_two B (tkL b X) a Y Y.length (Nat.le_refl _)]
  rw [tkL_len, tB_one B b X (tkL a Y) X.length (Nat.le_refl _), uB_n _ _ hab]
  exact (uB_cm B hab _ _).symm
/-! the difference: shared words are counted the same from both sides -/
def rsm (g : Nat → Nat) : Nat → Nat
  | 0 => 0
  | m + 1 => rsm g m + g m
theorem rsm_cg {f g : Nat → Nat} : ∀ n, (∀ i, i < n → f i = g i) → rsm f n = rsm g n
  | 0, _ => rfl
  | n + 1, h => by rw [rsm, rsm, rsm_cg n (fun i hi => h i (by omega)), h n (by omega)]
theorem rsm_add (f g : Nat → Nat) : ∀ n, rsm (fun i => f i + g i) n = rsm f n + rsm g n
  | 0 => rfl
  | n + 1 => by
    rw [rsm, rsm, rsm, rsm_add f g n]
    omega
theorem rsm_z : ∀ n, rsm (fun _ => 0) n = 0
  | 0 => rfl
  | n + 1 => by rw [rsm, rsm_z n]
theorem rsm_sw (f : Nat → Nat → Nat) (m : Nat) : ∀ n, rsm (fun i => rsm (fun j => f i j) m) n = rsm (fun j => rsm (fun i => f i j) n) m
  | 0 => by
    rw [rsm]
    exact (rsm_z m).symm
  | n + 1 => by
    rw [rsm, rsm_sw f m n, ← rsm_add]
    rfl
theorem rsm_one {g : Nat → Nat} {j : Nat} : ∀ n, j < n → (∀ i, i < n → i ≠ j → g i = 0) → rsm g n = g j
  | 0, h, _ => absurd h (Nat.not_lt_zero j)
  | n + 1, h, hz => by
    rw [rsm]
    by_cases hj : j = n
    · subst hj
      rw [rsm_cg (g := fun _ => 0) j (fun i hi => hz i (by omega) (by omega)), rsm_z, Nat.zero_add]
    · rw [rsm_one n (by omega) (fun i hi hne => hz i (by omega) hne), hz n (by omega) (by omega), Nat.add_zero]
/-- a word that is shared: there is one place for it -/
theorem sh_sum {l o : Bk} (hS : bkS o) {i : Nat} : rsm (fun j => if wd l i = wd o j then 1 else 0) o.length = if shB l o i = true then 1 else 0 := by
  have hp := pos_pl o (wd l i / 1024) hS
  by_cases h : shB l o i = true
  · rw [if_pos h]
    unfold shB at h
    rw [Bool.and_eq_true, decide_eq_true_eq, decide_eq_true_eq] at h
    rw [rsm_one (j := pos o (wd l i / 1024)) o.length h.1 (fun j hj hne => if_neg (fun z => by
      rcases Nat.lt_trichotomy j (pos o (wd l i / 1024)) with c | c | c
      · have := hS j (pos o (wd l i / 1024)) c h.1
        rw [h.2, z] at this
        omega
      · exact hne c
      · have := hS (pos o (wd l i / 1024)) j c hj
        rw [h.2, z] at this
        omega))]
    rw [if_pos h.2.symm]
  · rw [if_neg h, rsm_cg (g := fun _ => 0) o.length (fun j hj => if_neg (fun z => h (by
      unfold shB
      have e : pos o (wd l i / 1024) = j := by
        rcases Nat.lt_trichotomy (pos o (wd l i / 1024)) j with c | c | c
        · have h1 := hp.2.2 (pos o (wd l i / 1024)) (Nat.le_refl _) (by omega)
          have h2 := hS (pos o (wd l i / 1024)) j c hj
          rw [z] at h1 h2
          omega
        · exact c
        · have h1 := hp.2.1 j c
          rw [z] at h1
          omega
      rw [e, decide_eq_true hj, decide_eq_true z.symm]
      rfl))), rsm_z]
theorem cnt_rsm (P : Nat → Bool) : ∀ n, cntB P n = rsm (fun i => if P i = true then 1 else 0) n
  | 0 => rfl
  | n + 1 => by rw [cntB, rsm, cnt_rsm P n]
theorem sh_sym {l o : Bk} (hl : bkS l) (ho : bkS o) : cntB (shB l o) l.length = cntB (shB o l) o.length := by
  rw [cnt_rsm, cnt_rsm, rsm_cg _ (fun i _ => (sh_sum (l := l) ho (i := i)).symm), rsm_sw, rsm_cg _ (fun j _ => (by
    rw [← sh_sum (l := o) hl (i := j)]
    exact rsm_cg _ (fun i _ => by
      by_cases z : wd l i = wd o j
      · rw [if_pos z, if_pos z.symm]
      · rw [if_neg z, if_neg (fun y => z y.symm)]) : rsm (fun i => if wd l i = wd o j then 1 else 0) l.length = if shB o l j = true then 1 else 0))]
theorem lk_cnt (l o : Bk) : ∀ n, cntB (lkB l o) n + cntB (shB l o) n = n
  | 0 => rfl
  | n + 1 => by
    have ih := lk_cnt l o n
    rw [cntB, cntB, lkB]
    by_cases h : shB l o n = true
    · rw [if_pos h, if_neg (by rw [h]; decide)]
      omega
    · rw [if_neg h, if_pos (by simp [h])]
      omega
theorem df_eq {B : Nat → Bk} (hB : ∀ c, c < 4 → gB (B c)) (v w : Int32) : (if twB v w = true then nI (cntB (lkB (B v.toNatClampNeg) (B w.toNatClampNeg)) (B v.toNatClampNeg).length + cntB (lkB (B w.toNatClampNeg) (B v.toNatClampNeg)) (B w.toNatClampNeg).length) else -1) = dfR B v w := by
  unfold dfR
  by_cases h : twB v w = true
  · rw [if_pos h, if_pos h]
    obtain ⟨a, b, ha, hb, _, ea, eb⟩ : ∃ a b : Nat, a < 4 ∧ b < 4 ∧ True ∧ v.toNatClampNeg = a ∧ w.toNatClampNeg = b := by
      obtain ⟨a, b, h1, h2, h3, h4, h5⟩ := twB_ex h
      subst h4
      subst h5
      exact ⟨a, b, h1, h2, trivial, nI_clamp (by omega), nI_clamp (by omega)⟩
    rw [ea, eb]
    obtain ⟨l1, s1, _⟩ := hB a ha
    obtain ⟨l2, s2, _⟩ := hB b hb
    have k1 := lk_cnt (B a) (B b) (B a).length
    have k2 := lk_cnt (B b) (B a) (B b).length
    have k3 := sh_sym s1 s2
    rw [pk_sub (by omega)]
    congr 1
    omega
  · rw [if_neg h, if_neg h]
