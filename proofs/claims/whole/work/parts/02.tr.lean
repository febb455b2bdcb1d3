/-! The abstract machine's cells as the kit's world -/
def am_tv (ad : Nat → Nat) (v : Value) : Value := match v with
  | .ref k => .ref (ad k)
  | v => v
theorem am_tv_cat (ad : Nat → Nat) (v : Value) : (am_tv ad v).category = v.category := by cases v <;> rfl
def am_tc (ad : Nat → Nat) (c : (Nat → Int32) ⊕ (Nat → Int64) ⊕ (Nat → UInt32) ⊕ (Nat → UInt64) ⊕ (Nat → Option Nat)) : (Nat → Int32) ⊕ (Nat → Int64) ⊕ (Nat → UInt32) ⊕ (Nat → UInt64) ⊕ (Nat → Option Nat) := match c with
  | .inl f => .inl f
  | .inr (.inl f) => .inr (.inl f)
  | .inr (.inr (.inl f)) => .inr (.inr (.inl f))
  | .inr (.inr (.inr (.inl f))) => .inr (.inr (.inr (.inl f)))
  | .inr (.inr (.inr (.inr f))) => .inr (.inr (.inr (.inr (fun j => (f j).map ad))))
def am_te (ad : Nat → Nat) (cA : Nat → ClassId) (e : am_E) : va_E := match e with
  | .inl (t, n, c) => .inl (cA t, n, am_tc ad c)
  | .inr (ci, fs) => .inr (ci, fs.map (am_tv ad))
def am_tw (ad : Nat → Nat) (cA : Nat → ClassId) (h : am_H) : va_W := h.mapIdx fun k e => (ad k, am_te ad cA e)
theorem am_tw_len (ad : Nat → Nat) (cA : Nat → ClassId) (h : am_H) : (am_tw ad cA h).length = h.length := by simp [am_tw]
theorem am_tw_get {ad : Nat → Nat} {cA : Nat → ClassId} {h : am_H} {k : Nat} {e : am_E} (hk : h[k]? = some e) : (am_tw ad cA h)[k]? = some (ad k, am_te ad cA e) := by
  simp [am_tw, hk]
theorem am_tw_set (ad : Nat → Nat) (cA : Nat → ClassId) (h : am_H) (k : Nat) (e : am_E) : am_tw ad cA (h.set k e) = (am_tw ad cA h).set k (ad k, am_te ad cA e) := by
  apply List.ext_getElem?
  intro i
  simp only [am_tw, List.getElem?_mapIdx, List.getElem?_set, List.length_mapIdx]
  by_cases hk : k = i
  · subst hk
    by_cases hl : k < h.length <;> simp [hl]
  · simp [hk]
-- the locals
def am_as (ad : Nat → Nat) : Nat → am_L → List (Nat × Value)
  | _, [] => []
  | j, none :: t => am_as ad (j + 1) t
  | j, some w :: t => (j, am_tv ad w) :: am_as ad (j + 1) t
theorem am_as_mem {ad : Nat → Nat} : ∀ (l : am_L) (j : Nat) (q : Nat × Value), q ∈ am_as ad j l ↔ ∃ k w, l[k]? = some (some w) ∧ q = (j + k, am_tv ad w)
  | [], j, q => by simp [am_as]
  | none :: t, j, q => by
    rw [am_as, am_as_mem t (j + 1) q]
    constructor
    · rintro ⟨k, w, h1, h2⟩
      exact ⟨k + 1, w, by simpa using h1, by rw [h2]; congr 1; omega⟩
    · rintro ⟨k, w, h1, h2⟩
      cases k with
      | zero => simp at h1
      | succ k => exact ⟨k, w, by simpa using h1, by rw [h2]; congr 1; omega⟩
  | some v :: t, j, q => by
    rw [am_as, List.mem_cons, am_as_mem t (j + 1) q]
    constructor
    · rintro (h | ⟨k, w, h1, h2⟩)
      · exact ⟨0, v, rfl, h⟩
      · exact ⟨k + 1, w, by simpa using h1, by rw [h2]; congr 1; omega⟩
    · rintro ⟨k, w, h1, h2⟩
      cases k with
      | zero =>
        simp at h1
        subst h1
        exact Or.inl h2
      | succ k => exact Or.inr ⟨k, w, by simpa using h1, by rw [h2]; congr 1; omega⟩
theorem am_as_at {ad : Nat → Nat} {l : am_L} {i : Nat} {v : Value} (h : am_ld l i = some v) : (i, am_tv ad v) ∈ am_as ad 0 l := by
  rw [am_as_mem]
  unfold am_ld at h
  split at h
  next w hw =>
    cases h
    exact ⟨i, v, hw, by simp⟩
  next => cases h
theorem am_has_at {ad : Nat → Nat} {lsC : Array Slot} {nL : Nat} {l : am_L} {i : Nat} {v : Value} (hl : lv_has lsC nL (am_as ad 0 l)) (h : am_ld l i = some v) : lsC[i]? = some (.val (am_tv ad v)) := hl.2.2 _ (am_as_at h)
theorem am_has_k {ad : Nat → Nat} {l : am_L} {i : Nat} {v : Value} (h : am_ld l i = some v) : ∃ k : Nat, (am_as ad 0 l)[k]? = some (i, am_tv ad v) := List.getElem?_of_mem (am_as_at h)
theorem am_st_get : ∀ (l : am_L) (i : Nat) (v : Value) (j : Nat) (w : Value), (am_st i v l)[j]? = some (some w) → (j = i ∧ w = v) ∨ (j ≠ i ∧ l[j]? = some (some w) ∧ (v.category = 2 → j ≠ i + 1) ∧ ¬ (j + 1 = i ∧ w.category = 2))
  | [], i, v, j, w, h => by cases i <;> simp [am_st] at h
  | x :: t, 0, v, j, w, h => by
    rw [am_st] at h
    cases j with
    | zero =>
      simp at h
      exact Or.inl ⟨rfl, h.symm⟩
    | succ j =>
      simp only [List.getElem?_cons_succ] at h
      refine Or.inr ⟨by omega, ?_, ?_, by omega⟩
      · split at h
        · cases t with
          | nil => simp [am_cl] at h
          | cons y t =>
            cases j with
            | zero => simp [am_cl] at h
            | succ j => simpa [am_cl] using h
        · simpa using h
      · intro hc e
        rw [if_pos hc] at h
        have : j = 0 := by omega
        subst this
        cases t with
        | nil => simp [am_cl] at h
        | cons y t => simp [am_cl] at h
  | x :: t, 1, v, j, w, h => by
    have h : (am_kl x :: am_st 0 v t)[j]? = some (some w) := h
    cases j with
    | zero =>
      simp only [List.getElem?_cons_zero, Option.some.injEq] at h
      cases x with
      | none => simp [am_kl] at h
      | some y =>
        simp only [am_kl] at h
        by_cases hc : y.category = 2
        · rw [if_pos hc] at h
          cases h
        · rw [if_neg hc] at h
          cases h
          exact Or.inr ⟨by omega, rfl, fun _ => by omega, fun q => hc q.2⟩
    | succ j =>
      simp only [List.getElem?_cons_succ] at h
      rcases am_st_get t 0 v j w h with ⟨h1, h2⟩ | ⟨h1, h2, h3, h4⟩
      · exact Or.inl ⟨by omega, h2⟩
      · exact Or.inr ⟨by omega, by simpa using h2, fun q => by have := h3 q; omega, by omega⟩
  | x :: t, i + 2, v, j, w, h => by
    rw [am_st] at h
    cases j with
    | zero =>
      simp only [List.getElem?_cons_zero, Option.some.injEq] at h
      subst h
      exact Or.inr ⟨by omega, rfl, fun _ => by omega, by omega⟩
    | succ j =>
      simp only [List.getElem?_cons_succ] at h
      rcases am_st_get t (i + 1) v j w h with ⟨h1, h2⟩ | ⟨h1, h2, h3, h4⟩
      · exact Or.inl ⟨by omega, h2⟩
      · exact Or.inr ⟨by omega, by simpa using h2, fun q => by have := h3 q; omega, fun q => h4 ⟨by omega, q.2⟩⟩
theorem am_st_len : ∀ (l : am_L) (i : Nat) (v : Value), (am_st i v l).length = l.length
  | [], i, v => by cases i <;> simp [am_st]
  | x :: t, 0, v => by
    rw [am_st]
    split
    · cases t <;> simp [am_cl]
    · simp
  | x :: t, 1, v => by
    show (_ :: am_st 0 v t).length = _
    simp [am_st_len t 0 v]
  | x :: t, i + 2, v => by rw [am_st]; simp [am_st_len t (i + 1) v]
theorem am_store1 {ad : Nat → Nat} {lsC : Array Slot} {nL : Nat} {l : am_L} {i : Nat} {v : Value} (hl : lv_has lsC nL ((i, am_tv ad v) :: (am_as ad 0 l).filter (fun q => !(q.1 == i) && !(q.1 + 1 == i && q.2.category == 2)))) (hc : v.category = 1) : lv_has lsC nL (am_as ad 0 (am_st i v l)) := by
  refine ⟨hl.1, hl.2.1, fun q hq => ?_⟩
  obtain ⟨k, w, h1, h2⟩ := (am_as_mem _ _ _).mp hq
  rw [Nat.zero_add] at h2
  apply hl.2.2
  rcases am_st_get _ _ _ _ _ h1 with ⟨e1, e2⟩ | ⟨e1, e2, -, e4⟩
  · rw [h2, e1, e2]
    exact List.mem_cons_self
  · refine List.mem_cons_of_mem _ (List.mem_filter.mpr ⟨(am_as_mem _ _ _).mpr ⟨k, w, e2, by rw [h2, Nat.zero_add]⟩, ?_⟩)
    rw [h2]
    simp only [am_tv_cat]
    simp [e1]
    by_cases z : k + 1 = i
    · exact Or.inr (fun y => e4 ⟨z, y⟩)
    · exact Or.inl z
theorem am_store2 {ad : Nat → Nat} {lsC : Array Slot} {nL : Nat} {l : am_L} {i : Nat} {v : Value} (hl : lv_has lsC nL ((i, am_tv ad v) :: (am_as ad 0 l).filter (fun q => !(q.1 == i) && (!(q.1 == i + 1) && !(q.1 + 1 == i && q.2.category == 2))))) (hc : v.category = 2) : lv_has lsC nL (am_as ad 0 (am_st i v l)) := by
  refine ⟨hl.1, hl.2.1, fun q hq => ?_⟩
  obtain ⟨k, w, h1, h2⟩ := (am_as_mem _ _ _).mp hq
  rw [Nat.zero_add] at h2
  apply hl.2.2
  rcases am_st_get _ _ _ _ _ h1 with ⟨e1, e2⟩ | ⟨e1, e2, e3, e4⟩
  · rw [h2, e1, e2]
    exact List.mem_cons_self
  · refine List.mem_cons_of_mem _ (List.mem_filter.mpr ⟨(am_as_mem _ _ _).mpr ⟨k, w, e2, by rw [h2, Nat.zero_add]⟩, ?_⟩)
    rw [h2]
    simp only [am_tv_cat]
    simp [e1, e3 hc]
    by_cases z : k + 1 = i
    · exact Or.inr (fun y => e4 ⟨z, y⟩)
    · exact Or.inl z
theorem am_en_as (ad : Nat → Nat) : ∀ (vs : List Value) (j k : Nat) (w : Value), (am_en vs)[k]? = some (some w) → (j + k, am_tv ad w) ∈ lv_args j (vs.map (am_tv ad))
  | [], j, k, w, h => by simp [am_en] at h
  | v :: vs, j, k, w, h => by
    rw [am_en] at h
    rw [List.map_cons, lv_args, am_tv_cat]
    by_cases hc : v.category = 2
    · rw [if_pos hc] at h
      rw [if_pos hc]
      match k, h with
      | 0, h =>
        simp at h
        subst h
        exact List.mem_cons_self
      | 1, h => simp at h
      | k + 2, h =>
        simp at h
        have := am_en_as ad vs (j + 2) k w h
        exact List.mem_cons_of_mem _ (by rw [show j + (k + 2) = j + 2 + k by omega]; exact this)
    · rw [if_neg hc] at h
      rw [if_neg hc]
      match k, h with
      | 0, h =>
        simp at h
        subst h
        exact List.mem_cons_self
      | k + 1, h =>
        simp at h
        have := am_en_as ad vs (j + 1) k w h
        exact List.mem_cons_of_mem _ (by rw [show j + (k + 1) = j + 1 + k by omega]; exact this)
theorem am_en_len (ad : Nat → Nat) : ∀ vs : List Value, (lg_sl (vs.map (am_tv ad))).length = (am_en vs).length
  | [] => by simp [lg_sl, am_en]
  | v :: vs => by
    have ih := am_en_len ad vs
    unfold lg_sl at ih ⊢
    rw [List.map_cons, List.flatMap_cons, am_tv_cat, am_en]
    by_cases hc : v.category = 2
    · rw [if_pos hc, if_pos hc]
      simp only [List.length_append, List.length_cons, List.length_nil, ih]
      omega
    · rw [if_neg hc, if_neg hc]
      simp only [List.length_append, List.length_cons, List.length_nil, ih]
      omega
theorem am_entry (ad : Nat → Nat) (vs : List Value) {n : Nat} (h : (am_en vs).length ≤ n) : lv_has ((lg_sl (vs.map (am_tv ad)) ++ List.replicate (n - (lg_sl (vs.map (am_tv ad))).length) Slot.unset).toArray) n (am_as ad 0 (am_pad n (am_en vs))) := by
  have hl := lv_entry (vs.map (am_tv ad)) (n := n) (by rw [am_en_len]; exact h)
  refine ⟨hl.1, hl.2.1, fun q hq => hl.2.2 q ?_⟩
  obtain ⟨k, w, h1, h2⟩ := (am_as_mem _ _ _).mp hq
  rw [h2]
  apply am_en_as
  unfold am_pad at h1
  by_cases hk : k < (am_en vs).length
  · rw [List.getElem?_append_left hk] at h1
    exact h1
  · rw [List.getElem?_append_right (by omega)] at h1
    have := List.mem_of_getElem? h1
    simp at this
-- closed things stay when a new cell gets its address
def am_ag (n : Nat) (ad ad' : Nat → Nat) : Prop := ∀ k, (k < n ∨ am_x0 ≤ k) → ad' k = ad k
theorem am_ag.rf (n : Nat) (ad : Nat → Nat) : am_ag n ad ad := fun _ _ => rfl
theorem am_ag.tr {n m : Nat} {a b c : Nat → Nat} (h1 : am_ag n a b) (h2 : am_ag m b c) (hm : n ≤ m) : am_ag n a c := fun k hk => by
  rw [h2 k (by omega), h1 k hk]
theorem am_ag.up {n : Nat} (ad : Nat → Nat) (q : Nat) (hn : n < 1000) : am_ag n ad (va_up ad n q) := fun k hk => va_up_ne _ _ (by unfold am_x0 at hk; omega)
theorem am_cv_tv {n : Nat} {ad ad' : Nat → Nat} (h : am_ag n ad ad') {v : Value} (hv : am_cv n v = true) : am_tv ad' v = am_tv ad v := by
  cases v with
  | ref k =>
    simp only [am_cv, Bool.or_eq_true, decide_eq_true_eq] at hv
    simp only [am_tv, h k hv]
  | _ => rfl
theorem am_cs_map {n : Nat} {ad ad' : Nat → Nat} (h : am_ag n ad ad') {st : List Value} (hv : am_cs n st = true) : st.map (am_tv ad') = st.map (am_tv ad) := by
  apply List.map_congr_left
  intro v hm
  exact am_cv_tv h (List.all_eq_true.mp hv v hm)
theorem am_co_as {n : Nat} {ad ad' : Nat → Nat} (h : am_ag n ad ad') : ∀ (l : am_L) (j : Nat), am_co n l = true → am_as ad' j l = am_as ad j l
  | [], j, hv => rfl
  | none :: t, j, hv => by
    rw [am_as, am_as]
    apply am_co_as h t
    simpa [am_co] using hv
  | some w :: t, j, hv => by
    simp only [am_co, List.all_cons, Bool.and_eq_true] at hv
    rw [am_as, am_as, am_cv_tv h hv.1, am_co_as h t (j + 1) (by simpa [am_co] using hv.2)]
theorem am_arrV {cI : ClassId} {N : Nat} {f g : Nat → Value} (h : ∀ j, j < N → f j = g j) : arrV cI N f = arrV cI N g := by
  unfold arrV
  congr 2
  funext j
  exact h j.1 j.2
-- a cell of the world as it is seen: two contents that agree within the length are one
theorem am_at_te {D : va_G} {cl : List vw_C} {n q : Nat} {ad ad' : Nat → Nat} {cA : Nat → ClassId} (h : am_ag n ad ad') {e : am_E} (hv : am_ce n e = true) {H : Heap} (hat : va_at D cl (q, am_te ad cA e) H) : va_at D cl (q, am_te ad' cA e) H := by
  match e, hv, hat with
  | .inr (ci, fs), hv, hat =>
    have e1 : am_te ad' cA (.inr (ci, fs)) = am_te ad cA (.inr (ci, fs)) := by
      simp only [am_te]
      rw [am_cs_map h (by simpa [am_ce] using hv)]
    rw [e1]
    exact hat
  | .inl (t, k, .inl f), hv, hat => exact hat
  | .inl (t, k, .inr (.inl f)), hv, hat => exact hat
  | .inl (t, k, .inr (.inr (.inl f))), hv, hat => exact hat
  | .inl (t, k, .inr (.inr (.inr (.inl f)))), hv, hat => exact hat
  | .inl (t, k, .inr (.inr (.inr (.inr f)))), hv, hat =>
    have hat' : H[q]? = some (vp_cell (cA t) (k, .inr (.inr (.inr (.inr (fun j => (f j).map ad)))))) := hat
    show H[q]? = some (vp_cell (cA t) (k, .inr (.inr (.inr (.inr (fun j => (f j).map ad'))))))
    rw [hat']
    congr 1
    rw [vp_cell_q, vp_cell_q]
    apply am_arrV
    intro j hj
    have := List.all_eq_true.mp (by simpa only [am_ce] using hv) j (List.mem_range.mpr hj)
    cases hf : f j with
    | none => rfl
    | some a =>
      rw [hf] at this
      simp only [decide_eq_true_eq] at this
      simp only [Option.map_some, h a (Or.inl this)]
theorem am_te_push {D : va_G} {cl : List vw_C} {ad ad' : Nat → Nat} {cA : Nat → ClassId} {h : am_H} {H : Heap} {n : Nat} (hag : am_ag n ad ad') (hn : n = h.length) (hc : h.all (am_ce n) = true) (hP : va_P D cl (am_tw ad cA h) H) : va_P D cl (am_tw ad' cA h) H := by
  intro k q hk
  simp only [am_tw, List.getElem?_mapIdx] at hk
  cases he : h[k]? with
  | none => rw [he] at hk; cases hk
  | some e =>
    rw [he] at hk
    cases hk
    have hlt : k < n := by rw [hn]; exact (List.getElem?_eq_some_iff.mp he).1
    have h1 := hP k _ (am_tw_get (ad := ad) (cA := cA) he)
    show va_at D cl (ad' k, am_te ad' cA e) H
    rw [hag k (Or.inl hlt)]
    exact am_at_te hag (List.all_eq_true.mp hc e (List.mem_of_getElem? he)) h1
theorem am_tw_ad (ad : Nat → Nat) (cA : Nat → ClassId) (h : am_H) (k : Nat) : (am_tw ad cA h)[k]?.map (·.1) = if k < h.length then some (ad k) else none := by
  simp only [am_tw, List.getElem?_mapIdx, Option.map_map]
  by_cases hk : k < h.length
  · rw [List.getElem?_eq_getElem hk, if_pos hk]
    rfl
  · rw [List.getElem?_eq_none (by omega), if_neg hk]
    rfl
/-- which addresses there are: nothing but the numbers' -/
theorem am_D_of {A : Nat → Prop} {w1 w2 : va_W} (hD : va_D A w1) (h : ∀ k : Nat, w2[k]?.map (·.1) = w1[k]?.map (·.1)) : va_D A w2 := by
  have key : ∀ (k : Nat) (q : Nat × va_E), w2[k]? = some q → ∃ q0, w1[k]? = some q0 ∧ q0.1 = q.1 := by
    intro k q hk
    have := h k
    rw [hk] at this
    cases hw : w1[k]? with
    | none => rw [hw] at this; cases this
    | some q0 =>
      rw [hw] at this
      exact ⟨q0, rfl, (Option.some.inj this).symm⟩
  refine ⟨fun i j x y hi hj hxy => ?_, fun k q hk => ?_⟩
  · obtain ⟨x0, h1, h2⟩ := key i x hi
    obtain ⟨y0, h3, h4⟩ := key j y hj
    exact hD.1 i j x0 y0 h1 h3 (h2.trans (hxy.trans h4.symm))
  · obtain ⟨q0, h1, h2⟩ := key k q hk
    rw [← h2]
    exact hD.2 k q0 h1
