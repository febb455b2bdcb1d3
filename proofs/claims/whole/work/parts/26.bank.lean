/-! Banks as lists: places, storing -/
theorem wd_eq (l : Bk) (i : Nat) : wd l i = ((l[i]?).getD (0, 0, false)).1 := by unfold wd; rw [List.getD_eq_getElem?_getD]
theorem gd_eq (l : Bk) (i : Nat) : gd l i = ((l[i]?).getD (0, 0, false)).2.1 := by unfold gd; rw [List.getD_eq_getElem?_getD]
theorem dd_eq (l : Bk) (i : Nat) : dd l i = ((l[i]?).getD (0, 0, false)).2.2 := by unfold dd; rw [List.getD_eq_getElem?_getD]
theorem wd_succ (e : Nat × Int32 × Bool) (t : Bk) (i : Nat) : wd (e :: t) (i + 1) = wd t i := by rw [wd_eq, wd_eq]; simp
theorem wd_zero (e : Nat × Int32 × Bool) (t : Bk) : wd (e :: t) 0 = e.1 := by rw [wd_eq]; simp
def pos : Bk → Nat → Nat
  | [], _ => 0
  | e :: t, n => if e.1 / 1024 < n then pos t n + 1 else 0
theorem bkS_tail {e : Nat × Int32 × Bool} {t : Bk} (h : bkS (e :: t)) : bkS t := fun i j hij hj => by
  have := h (i + 1) (j + 1) (by omega) (by simp; omega)
  rwa [wd_succ, wd_succ] at this
theorem pos_pl : ∀ (l : Bk) (n : Nat), bkS l → isPl l n (pos l n)
  | [], n, _ => ⟨Nat.le_refl _, fun i h => absurd h (Nat.not_lt_zero _), fun i _ h => absurd h (Nat.not_lt_zero _)⟩
  | e :: t, n, hS => by
    have ih := pos_pl t n (bkS_tail hS)
    rw [pos]
    by_cases hc : e.1 / 1024 < n
    · rw [if_pos hc]
      refine ⟨by simp only [List.length_cons]; have := ih.1; omega, fun i hi => ?_, fun i h1 h2 => ?_⟩
      · cases i with
        | zero => rw [wd_zero]; exact hc
        | succ i => rw [wd_succ]; exact ih.2.1 i (by omega)
      · cases i with
        | zero => omega
        | succ i => rw [wd_succ]; exact ih.2.2 i (by omega) (by simpa using h2)
    · rw [if_neg hc]
      refine ⟨Nat.zero_le _, fun i hi => by omega, fun i _ h2 => ?_⟩
      cases i with
      | zero => rw [wd_zero]; omega
      | succ i =>
        have := hS 0 (i + 1) (by omega) h2
        rw [wd_zero] at this
        omega
theorem isPl.uniq {l : Bk} {n p q : Nat} (hp : isPl l n p) (hq : isPl l n q) : p = q := by
  rcases Nat.lt_trichotomy p q with h | h | h
  · have a := hq.2.1 p h
    have b := hp.2.2 p (Nat.le_refl _) (by have := hq.1; omega)
    omega
  · exact h
  · have a := hp.2.1 q h
    have b := hq.2.2 q (Nat.le_refl _) (by have := hp.1; omega)
    omega
def insP (l : Bk) (p : Nat) (e : Nat × Int32 × Bool) : Bk := l.take p ++ e :: l.drop p
theorem insP_get {l : Bk} {p : Nat} (hp : p ≤ l.length) (e : Nat × Int32 × Bool) (j : Nat) : (insP l p e)[j]? = if j < p then l[j]? else if j = p then some e else l[j - 1]? := by
  unfold insP
  have hl : (l.take p).length = p := by rw [List.length_take]; omega
  by_cases h1 : j < p
  · rw [if_pos h1, List.getElem?_append_left (by omega), List.getElem?_take_of_lt h1]
  · rw [if_neg h1, List.getElem?_append_right (by omega), hl]
    by_cases h2 : j = p
    · subst h2
      rw [if_pos rfl, Nat.sub_self]
      rfl
    · rw [if_neg h2]
      obtain ⟨q, hq⟩ : ∃ q, j - p = q + 1 := ⟨j - p - 1, by omega⟩
      rw [hq, List.getElem?_cons_succ, List.getElem?_drop]
      congr 1
      omega
theorem insP_len {l : Bk} {p : Nat} (hp : p ≤ l.length) (e : Nat × Int32 × Bool) : (insP l p e).length = l.length + 1 := by
  unfold insP
  rw [List.length_append, List.length_cons, List.length_take, List.length_drop]
  omega
theorem insP_wd {l : Bk} {p : Nat} (hp : p ≤ l.length) (e : Nat × Int32 × Bool) (j : Nat) : wd (insP l p e) j = if j < p then wd l j else if j = p then e.1 else wd l (j - 1) := by
  rw [wd_eq, insP_get hp]
  split
  · rw [wd_eq]
  · split
    · rfl
    · rw [wd_eq]
theorem insP_gd {l : Bk} {p : Nat} (hp : p ≤ l.length) (e : Nat × Int32 × Bool) (j : Nat) : gd (insP l p e) j = if j < p then gd l j else if j = p then e.2.1 else gd l (j - 1) := by
  rw [gd_eq, insP_get hp]
  split
  · rw [gd_eq]
  · split
    · rfl
    · rw [gd_eq]
theorem insP_dd {l : Bk} {p : Nat} (hp : p ≤ l.length) (e : Nat × Int32 × Bool) (j : Nat) : dd (insP l p e) j = if j < p then dd l j else if j = p then e.2.2 else dd l (j - 1) := by
  rw [dd_eq, insP_get hp]
  split
  · rw [dd_eq]
  · split
    · rfl
    · rw [dd_eq]
theorem set_wd {l : Bk} {p : Nat} (hp : p < l.length) (e : Nat × Int32 × Bool) (j : Nat) : wd (l.set p e) j = if j = p then e.1 else wd l j := by
  rw [wd_eq, List.getElem?_set]
  by_cases h : j = p
  · subst h
    simp [hp]
  · rw [if_neg (fun z => h z.symm), if_neg h, wd_eq]
theorem set_gd {l : Bk} {p : Nat} (hp : p < l.length) (e : Nat × Int32 × Bool) (j : Nat) : gd (l.set p e) j = if j = p then e.2.1 else gd l j := by
  rw [gd_eq, List.getElem?_set]
  by_cases h : j = p
  · subst h
    simp [hp]
  · rw [if_neg (fun z => h z.symm), if_neg h, gd_eq]
theorem set_dd {l : Bk} {p : Nat} (hp : p < l.length) (e : Nat × Int32 × Bool) (j : Nat) : dd (l.set p e) j = if j = p then e.2.2 else dd l j := by
  rw [dd_eq, List.getElem?_set]
  by_cases h : j = p
  · subst h
    simp [hp]
  · rw [if_neg (fun z => h z.symm), if_neg h, dd_eq]
/-- a record stored: in place of the one of its number, or put in, if there is room -/
def stR (l : Bk) (e : Nat × Int32 × Bool) : Bk := if hasAt l (pos l (e.1 / 1024)) (e.1 / 1024) = true then l.set (pos l (e.1 / 1024)) e else if 64 ≤ l.length then l else insP l (pos l (e.1 / 1024)) e
theorem hasAt_iff {l : Bk} {p n : Nat} : hasAt l p n = true ↔ p < l.length ∧ wd l p / 1024 = n := by simp [hasAt]
theorem stR_S {l : Bk} (hS : bkS l) (e : Nat × Int32 × Bool) : bkS (stR l e) := by
  have hp := pos_pl l (e.1 / 1024) hS
  unfold stR
  split
  next h =>
    rw [hasAt_iff] at h
    intro i j hij hj
    rw [List.length_set] at hj
    have h0 := hS i j hij hj
    rw [set_wd h.1, set_wd h.1]
    split
    · subst_vars
      split
      · omega
      · rw [← h.2]; exact h0
    · split
      · subst_vars
        rw [← h.2]; exact h0
      · exact h0
  next h =>
    rw [hasAt_iff] at h
    split
    · exact hS
    · intro i j hij hj
      rw [insP_len hp.1] at hj
      rw [insP_wd hp.1, insP_wd hp.1]
      have key : ∀ q, pos l (e.1 / 1024) ≤ q → q < l.length → e.1 / 1024 < wd l q / 1024 := by
        intro q h1 h2
        have a := hp.2.2 q h1 h2
        by_cases hq : q = pos l (e.1 / 1024)
        · have : ¬ wd l q / 1024 = e.1 / 1024 := fun z => h ⟨by rw [← hq]; exact h2, by rw [← hq]; exact z⟩
          omega
        · have b := hS (pos l (e.1 / 1024)) q (by omega) h2
          have c := hp.2.2 (pos l (e.1 / 1024)) (Nat.le_refl _) (by omega)
          omega
      by_cases h1 : i < pos l (e.1 / 1024)
      · rw [if_pos h1]
        by_cases h2 : j < pos l (e.1 / 1024)
        · rw [if_pos h2]
          exact hS i j hij (by have := hp.1; omega)
        · rw [if_neg h2]
          by_cases h3 : j = pos l (e.1 / 1024)
          · rw [if_pos h3]
            exact hp.2.1 i h1
          · rw [if_neg h3]
            exact hS i (j - 1) (by omega) (by omega)
      · rw [if_neg h1, if_neg (by omega : ¬ j < pos l (e.1 / 1024)), if_neg (by omega : ¬ j = pos l (e.1 / 1024))]
        by_cases h3 : i = pos l (e.1 / 1024)
        · rw [if_pos h3]
          exact key (j - 1) (by omega) (by omega)
        · rw [if_neg h3]
          exact hS (i - 1) (j - 1) (by omega) (by omega)
theorem stR_W {l : Bk} (hS : bkS l) (hW : bkW l) {e : Nat × Int32 × Bool} (he : e.1 < 1073741824) : bkW (stR l e) := by
  have hp := pos_pl l (e.1 / 1024) hS
  unfold stR
  split
  next h =>
    rw [hasAt_iff] at h
    intro i hi
    rw [List.length_set] at hi
    rw [set_wd h.1]
    split
    · exact he
    · exact hW i hi
  next h =>
    split
    · exact hW
    · intro i hi
      rw [insP_len hp.1] at hi
      rw [insP_wd hp.1]
      split
      · exact hW i (by have := hp.1; omega)
      · split
        · exact he
        · exact hW (i - 1) (by omega)
theorem stR_len {l : Bk} (hl : l.length ≤ 64) (hS : bkS l) (e : Nat × Int32 × Bool) : (stR l e).length ≤ 64 := by
  have hp := pos_pl l (e.1 / 1024) hS
  unfold stR
  split
  · rw [List.length_set]; exact hl
  · split
    · exact hl
    · rw [insP_len hp.1]; omega
