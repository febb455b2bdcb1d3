/-! Runs of the abstract machine, goal first -/
theorem am_fuel1 {P : am_P} {X : am_X} : ∀ (n d j pc : Nat) (ls : am_L) (st : List Value) (h : am_H) (x : Option Value × am_H), am_run P X n d j pc ls st h = some x → am_run P X (n + 1) d j pc ls st h = some x := by
  intro n
  induction n with
  | zero => intro d j pc ls st h x hr; cases hr
  | succ n ih =>
    intro d j pc ls st h x hr
    rw [am_run] at hr
    rw [am_run]
    split at hr
    next => cases hr
    next M hM =>
      (try simp only [hM])
      split at hr
      next i len hi =>
        (try simp only [hi])
        split at hr
        next pc' ls' st' hp =>
          (try simp only [hp])
          exact ih _ _ _ _ _ _ _ hr
        next hp =>
          (try simp only [hp])
          split at hr
          next pc' ls' st' h1 hh =>
            (try simp only [hh])
            split at hr
            next hm =>
              (try rw [if_pos hm])
              exact ih _ _ _ _ _ _ _ hr
            next => cases hr
          next hh =>
            (try simp only [hh])
            split at hr
            next r0 hc =>
              (try simp only [hc])
              exact hr
            next j2 as st' hc =>
              (try simp only [hc])
              split at hr
              next => cases hr
              next d1 =>
                split at hr
                next => cases hr
                next M2 hM2 =>
                  (try simp only [hM2])
                  split at hr
                  next hle =>
                    (try rw [if_pos hle])
                    split at hr
                    next => cases hr
                    next r1 h1 hrun =>
                      simp only [ih _ _ _ _ _ _ _ hrun]
                      split at hr
                      next hcl =>
                        (try rw [if_pos hcl])
                        exact ih _ _ _ _ _ _ _ hr
                      next => cases hr
                  next => cases hr
            next => cases hr
      next => cases hr
theorem am_fuel {P : am_P} {X : am_X} {n k d j pc : Nat} {ls : am_L} {st : List Value} {h : am_H} {x : Option Value × am_H} (hr : am_run P X n d j pc ls st h = some x) (hk : n ≤ k) : am_run P X k d j pc ls st h = some x := by
  obtain ⟨q, rfl⟩ : ∃ q, k = n + q := ⟨k - n, by omega⟩
  clear hk
  induction q with
  | zero => exact hr
  | succ q ih => exact am_fuel1 _ _ _ _ _ _ _ _ ih
def ar (P : am_P) (X : am_X) (d j pc : Nat) (ls : am_L) (st : List Value) (h : am_H) (Q : Option Value → am_H → Prop) : Prop := ∃ (n : Nat) (r : Option Value) (h' : am_H), am_run P X n d j pc ls st h = some (r, h') ∧ Q r h'
theorem am_in_ix {i : Int32} {n : Nat} (h : vp_in i n) : am_ix i n = true := by
  unfold am_ix
  exact decide_eq_true (show ¬ (i < 0 ∨ n ≤ i.toNatClampNeg) from h)
/-- the same cells, of the same sizes, but those listed -/
def fr (l : List Nat) (h h1 : am_H) : Prop := h1.map am_se = h.map am_se ∧ ∀ k, k ∉ l → h1[k]? = h[k]?
theorem fr.rf (l : List Nat) (h : am_H) : fr l h h := ⟨rfl, fun _ _ => rfl⟩
theorem fr.len {l : List Nat} {h h1 : am_H} (f : fr l h h1) : h1.length = h.length := by
  have := congrArg List.length f.1
  simpa using this
theorem fr.tr {l l1 l2 : List Nat} {h h1 h2 : am_H} (f1 : fr l1 h h1) (f2 : fr l2 h1 h2) (s1 : ∀ k ∈ l1, k ∈ l) (s2 : ∀ k ∈ l2, k ∈ l) : fr l h h2 :=
  ⟨f2.1.trans f1.1, fun k hk => (f2.2 k (fun z => hk (s2 k z))).trans (f1.2 k (fun z => hk (s1 k z)))⟩
theorem fr.mono {l l1 : List Nat} {h h1 : am_H} (f : fr l1 h h1) (s : ∀ k ∈ l1, k ∈ l) : fr l h h1 := ⟨f.1, fun k hk => f.2 k (fun z => hk (s k z))⟩
theorem fr.at {l : List Nat} {h h1 : am_H} (f : fr l h h1) {k : Nat} {e : am_E} (hk : h[k]? = some e) (hn : k ∉ l) : h1[k]? = some e := (f.2 k hn).trans hk
theorem fr.sz {l : List Nat} {h h1 : am_H} (f : fr l h h1) : am_sz h1 = am_sz h := congrArg List.sum f.1
section AR
variable {P : am_P} {X : am_X} {d j pc pc' len : Nat} {M : am_M} {ls ls' : am_L} {st st' : List Value} {h h1 : am_H} {Q Q' : Option Value → am_H → Prop} {i : Instr}
theorem ar_mono (k : ar P X d j pc ls st h Q) (hq : ∀ r h', Q r h' → Q' r h') : ar P X d j pc ls st h Q' := by
  obtain ⟨n, r, h', h1, h2⟩ := k
  exact ⟨n, r, h', h1, hq r h' h2⟩
theorem ar_P (hM : P.1[j]? = some M) (hi : M.2.2.2.2.2[pc]? = some (some (i, len))) (hp : am_exP P X d M i pc ls st h = some (pc', ls', st')) (k : ar P X d j pc' ls' st' h Q) : ar P X d j pc ls st h Q := by
  obtain ⟨n, r, h', h1, h2⟩ := k
  exact ⟨n + 1, r, h', by rw [am_run]; simp only [hM, hi, hp]; exact h1, h2⟩
/-- several instructions that change no cell and read none that isn't known -/
def am_go (P : am_P) (X : am_X) (d : Nat) (M : am_M) (h : am_H) : Nat → Nat → am_L → List Value → Option am_R
  | 0, pc, ls, st => some (pc, ls, st)
  | n + 1, pc, ls, st => match M.2.2.2.2.2[pc]? with
    | some (some (i, _)) => match am_exP P X d M i pc ls st h with
      | some (pc', ls', st') => am_go P X d M h n pc' ls' st'
      | none => none
    | _ => none
theorem ar_go (hM : P.1[j]? = some M) : ∀ (n pc pc' : Nat) (ls ls' : am_L) (st st' : List Value), am_go P X d M h n pc ls st = some (pc', ls', st') → ar P X d j pc' ls' st' h Q → ar P X d j pc ls st h Q := by
  intro n
  induction n with
  | zero =>
    intro pc pc' ls ls' st st' hg k
    cases hg
    exact k
  | succ n ih =>
    intro pc pc' ls ls' st st' hg k
    rw [am_go] at hg
    split at hg
    next i len hi =>
      split at hg
      next pc1 ls1 st1 hp => exact ar_P hM hi hp (ih _ _ _ _ _ _ hg k)
      next => cases hg
    next => cases hg
theorem ar_H (hM : P.1[j]? = some M) (hi : M.2.2.2.2.2[pc]? = some (some (i, len))) (hp : am_exP P X d M i pc ls st h = none) (hh : am_exH P d M i pc ls st h = some (pc', ls', st', h1)) (hm : h.length ≤ h1.length ∧ am_sz h ≤ am_sz h1) (k : ar P X d j pc' ls' st' h1 Q) : ar P X d j pc ls st h Q := by
  obtain ⟨n, r, h', e1, e2⟩ := k
  exact ⟨n + 1, r, h', by rw [am_run]; simp only [hM, hi, hp, hh, if_pos hm]; exact e1, e2⟩
theorem ar_R {r : Option Value} (hM : P.1[j]? = some M) (hi : M.2.2.2.2.2[pc]? = some (some (i, len))) (hp : am_exP P X d M i pc ls st h = none) (hh : am_exH P d M i pc ls st h = none) (hc : am_exC P M i st h = some (.inl r)) (k : Q r h) : ar P X d j pc ls st h Q :=
  ⟨1, r, h, by rw [am_run]; simp only [hM, hi, hp, hh, hc], k⟩
theorem ar_C {j2 : Nat} {M2 : am_M} {as : List Value} {Q1 : Option Value → am_H → Prop} (hM : P.1[j]? = some M) (hi : M.2.2.2.2.2[pc]? = some (some (i, len))) (hp : am_exP P X (d + 1) M i pc ls st h = none) (hh : am_exH P (d + 1) M i pc ls st h = none) (hc : am_exC P M i st h = some (.inr (j2, as, st'))) (hM2 : P.1[j2]? = some M2) (hen : (am_en as).length ≤ M2.2.2.1)
    (hcall : ar P X d j2 0 (am_pad M2.2.2.1 (am_en as)) [] h Q1) (k : ∀ r h1, Q1 r h1 → h1.length = h.length ∧ ar P X (d + 1) j (pc + 3) ls (r.toList ++ st') h1 Q) : ar P X (d + 1) j pc ls st h Q := by
  obtain ⟨n1, r1, h1, e1, e2⟩ := hcall
  obtain ⟨hlen, n2, r2, h2, e3, e4⟩ := k r1 h1 e2
  refine ⟨max n1 n2 + 1, r2, h2, ?_, e4⟩
  rw [am_run]
  simp only [hM, hi, hp, hh, hc, hM2, if_pos hen, am_fuel e1 (Nat.le_max_left n1 n2), if_pos (Or.inl hlen : h1.length = h.length ∨ _)]
  exact am_fuel e3 (Nat.le_max_right n1 n2)
/-- the same, where cells may have been made: nothing at hand that isn't known -/
theorem ar_CN {j2 : Nat} {M2 : am_M} {as : List Value} {Q1 : Option Value → am_H → Prop} (hM : P.1[j]? = some M) (hi : M.2.2.2.2.2[pc]? = some (some (i, len))) (hp : am_exP P X (d + 1) M i pc ls st h = none) (hh : am_exH P (d + 1) M i pc ls st h = none) (hc : am_exC P M i st h = some (.inr (j2, as, st'))) (hM2 : P.1[j2]? = some M2) (hen : (am_en as).length ≤ M2.2.2.1) (hcl : (am_co h.length ls && am_cs h.length st' && decide (h.length < 1000)) = true)
    (hcall : ar P X d j2 0 (am_pad M2.2.2.1 (am_en as)) [] h Q1) (k : ∀ r h1, Q1 r h1 → ar P X (d + 1) j (pc + 3) ls (r.toList ++ st') h1 Q) : ar P X (d + 1) j pc ls st h Q := by
  obtain ⟨n1, r1, h1, e1, e2⟩ := hcall
  obtain ⟨n2, r2, h2, e3, e4⟩ := k r1 h1 e2
  refine ⟨max n1 n2 + 1, r2, h2, ?_, e4⟩
  rw [am_run]
  simp only [hM, hi, hp, hh, hc, hM2, if_pos hen, am_fuel e1 (Nat.le_max_left n1 n2), if_pos (Or.inr hcl : h1.length = h.length ∨ _)]
  exact am_fuel e3 (Nat.le_max_right n1 n2)
/-- a field is read -/
theorem ar_get {k kd ci i0 t a : Nat} {fs : List Value} {v : Value} {r : List Value} (hM : P.1[j]? = some M) (hi : M.2.2.2.2.2[pc]? = some (some (.getfield k, len))) (hF : P.2.1 M.2.2.2.2.1 k = some (kd, ci, i0, t)) (hh : h[a]? = some (.inr (ci, fs))) (hv : fs[i0]? = some v) (kk : ar P X d j (pc + 3) ls (v :: r) h Q) : ar P X d j pc ls (.ref a :: r) h Q :=
  ar_P hM hi (by simp only [am_exP, am_get, hF, hh, hv, if_true]; rfl) kk
theorem ar_iald {n a : Nat} {f : Nat → Int32} {i0 : Int32} {r : List Value} (hM : P.1[j]? = some M) (hi : M.2.2.2.2.2[pc]? = some (some (.iaload, len))) (ha : a < am_x0) (hh : h[a]? = some (.inl (0, n, .inl f))) (hin : vp_in i0 n) (kk : ar P X d j (pc + 1) ls (.int (f i0.toNatClampNeg) :: r) h Q) : ar P X d j pc ls (.int i0 :: .ref a :: r) h Q :=
  ar_P hM hi (by simp only [am_exP, am_iald, if_neg (Nat.not_le.mpr ha), hh, true_and]; rw [if_pos (am_in_ix hin)]; rfl) kk
theorem ar_xald {a : Nat} {i0 : Int32} {r : List Value} (hM : P.1[j]? = some M) (hi : M.2.2.2.2.2[pc]? = some (some (.iaload, len))) (ha : a < 3) (hin : vp_in i0 (X a).1) (kk : ar P X d j (pc + 1) ls (.int ((X a).2 i0.toNatClampNeg) :: r) h Q) : ar P X d j pc ls (.int i0 :: .ref (am_x0 + a) :: r) h Q :=
  ar_P hM hi (by simp only [am_exP, am_iald, if_pos (Nat.le_add_right am_x0 a), Nat.add_sub_cancel_left]; rw [if_pos ⟨Nat.add_lt_add_left ha _, am_in_ix hin⟩]; rfl) kk
theorem ar_zald {n a : Nat} {f : Nat → Int32} {i0 : Int32} {r : List Value} (hM : P.1[j]? = some M) (hi : M.2.2.2.2.2[pc]? = some (some (.baload, len))) (hh : h[a]? = some (.inl (2, n, .inl f))) (hin : vp_in i0 n) (kk : ar P X d j (pc + 1) ls (.int (f i0.toNatClampNeg) :: r) h Q) : ar P X d j pc ls (.int i0 :: .ref a :: r) h Q :=
  ar_P hM hi (by simp only [am_exP, am_zald, hh, true_and]; rw [if_pos (am_in_ix hin)]; rfl) kk
theorem ar_lald {n a : Nat} {f : Nat → Int64} {i0 : Int32} {r : List Value} (hM : P.1[j]? = some M) (hi : M.2.2.2.2.2[pc]? = some (some (.laload, len))) (hh : h[a]? = some (.inl (1, n, .inr (.inl f)))) (hin : vp_in i0 n) (kk : ar P X d j (pc + 1) ls (.long (f i0.toNatClampNeg) :: r) h Q) : ar P X d j pc ls (.int i0 :: .ref a :: r) h Q :=
  ar_P hM hi (by simp only [am_exP, am_lald, hh, true_and]; rw [if_pos (am_in_ix hin)]; rfl) kk
theorem ar_aald {t n a b : Nat} {f : Nat → Option Nat} {i0 : Int32} {r : List Value} (hM : P.1[j]? = some M) (hi : M.2.2.2.2.2[pc]? = some (some (.aaload, len))) (hh : h[a]? = some (.inl (t, n, .inr (.inr (.inr (.inr f)))))) (ht : t = 3 ∨ t = 4) (hin : vp_in i0 n) (hb : f i0.toNatClampNeg = some b) (kk : ar P X d j (pc + 1) ls (.ref b :: r) h Q) : ar P X d j pc ls (.int i0 :: .ref a :: r) h Q :=
  ar_P hM hi (by simp only [am_exP, am_aald, hh]; rw [if_pos ⟨ht, am_in_ix hin⟩, hb]; rfl) kk
theorem ar_alen {t n a : Nat} {c : (Nat → Int32) ⊕ (Nat → Int64) ⊕ (Nat → UInt32) ⊕ (Nat → UInt64) ⊕ (Nat → Option Nat)} {r : List Value} (hM : P.1[j]? = some M) (hi : M.2.2.2.2.2[pc]? = some (some (.arraylength, len))) (ha : a < am_x0) (hh : h[a]? = some (.inl (t, n, c))) (ht : t < 5) (kk : ar P X d j (pc + 1) ls (.int (nI n) :: r) h Q) : ar P X d j pc ls (.ref a :: r) h Q :=
  ar_P hM hi (by simp only [am_exP, am_alen, if_neg (Nat.not_le.mpr ha), hh, if_pos ht]; rfl) kk
-- cells that change: the new heap gets a name
theorem am_map_set {h : am_H} {a : Nat} {e0 e : am_E} (ha : h[a]? = some e0) (he : am_se e = am_se e0) : (h.set a e).map am_se = h.map am_se := by
  rw [List.map_set]
  apply List.ext_getElem?
  intro k
  rw [List.getElem?_set]
  by_cases hk : a = k
  · subst hk
    rw [if_pos rfl]
    have hl := (List.getElem?_eq_some_iff.mp ha).1
    rw [List.length_map, if_pos hl, List.getElem?_map, ha, he]
    rfl
  · rw [if_neg hk]
theorem am_sz_set {h : am_H} {a : Nat} {e0 e : am_E} (ha : h[a]? = some e0) (he : am_se e = am_se e0) : am_sz (h.set a e) = am_sz h := congrArg List.sum (am_map_set ha he)
theorem ar_set {a : Nat} {e0 e : am_E} (hM : P.1[j]? = some M) (hi : M.2.2.2.2.2[pc]? = some (some (i, len))) (hp : am_exP P X d M i pc ls st h = none) (hh : am_exH P d M i pc ls st h = some (pc', ls', st', h.set a e)) (ha : h[a]? = some e0) (he : am_se e = am_se e0)
    (k : ∀ h1 : am_H, fr [a] h h1 → h1[a]? = some e → ar P X d j pc' ls' st' h1 Q) : ar P X d j pc ls st h Q :=
  ar_H hM hi hp hh ⟨by simp, by rw [am_sz_set ha he]; exact Nat.le_refl _⟩ (k _ ⟨am_map_set ha he, fun b hb => List.getElem?_set_ne (fun z => hb (by rw [z]; exact List.mem_singleton.mpr rfl))⟩ (List.getElem?_set_self (List.getElem?_eq_some_iff.mp ha).1))
theorem ar_put {k kd ci i0 t a : Nat} {fs : List Value} {v : Value} {r : List Value} (hM : P.1[j]? = some M) (hi : M.2.2.2.2.2[pc]? = some (some (.putfield k, len))) (hF : P.2.1 M.2.2.2.2.1 k = some (kd, ci, i0, t)) (hh : h[a]? = some (.inr (ci, fs))) (hv : i0 < fs.length) (ht : am_vt t v = true) (hk : kd < 3)
    (kk : ∀ h1 : am_H, fr [a] h h1 → h1[a]? = some (.inr (ci, fs.set i0 v)) → ar P X d j (pc + 3) ls r h1 Q) : ar P X d j pc ls (v :: .ref a :: r) h Q :=
  ar_set (e := .inr (ci, fs.set i0 v)) hM hi rfl (by simp only [am_exH, am_put, hF, hh]; rw [if_pos ⟨trivial, hv, ht, hk⟩]; rfl) hh (by simp [am_se]) kk
theorem ar_iast {n a : Nat} {f : Nat → Int32} {i0 x : Int32} {r : List Value} (hM : P.1[j]? = some M) (hi : M.2.2.2.2.2[pc]? = some (some (.iastore, len))) (hh : h[a]? = some (.inl (0, n, .inl f))) (hin : vp_in i0 n)
    (kk : ∀ h1 : am_H, fr [a] h h1 → h1[a]? = some (.inl (0, n, .inl (upd f i0.toNatClampNeg x))) → ar P X d j (pc + 1) ls r h1 Q) : ar P X d j pc ls (.int x :: .int i0 :: .ref a :: r) h Q :=
  ar_set (e := .inl (0, n, .inl (upd f i0.toNatClampNeg x))) hM hi rfl (by simp only [am_exH, am_iast, hh]; rw [if_pos ⟨trivial, am_in_ix hin⟩]; rfl) hh rfl kk
theorem ar_zast {n a : Nat} {f : Nat → Int32} {i0 x : Int32} {r : List Value} (hM : P.1[j]? = some M) (hi : M.2.2.2.2.2[pc]? = some (some (.bastore, len))) (hh : h[a]? = some (.inl (2, n, .inl f))) (hin : vp_in i0 n)
    (kk : ∀ h1 : am_H, fr [a] h h1 → h1[a]? = some (.inl (2, n, .inl (upd f i0.toNatClampNeg (vp_nar .boolean x)))) → ar P X d j (pc + 1) ls r h1 Q) : ar P X d j pc ls (.int x :: .int i0 :: .ref a :: r) h Q :=
  ar_set (e := .inl (2, n, .inl (upd f i0.toNatClampNeg (vp_nar .boolean x)))) hM hi rfl (by simp only [am_exH, am_zast, hh]; rw [if_pos ⟨trivial, am_in_ix hin⟩]; rfl) hh rfl kk
theorem ar_last {n a : Nat} {f : Nat → Int64} {i0 : Int32} {x : Int64} {r : List Value} (hM : P.1[j]? = some M) (hi : M.2.2.2.2.2[pc]? = some (some (.lastore, len))) (hh : h[a]? = some (.inl (1, n, .inr (.inl f)))) (hin : vp_in i0 n)
    (kk : ∀ h1 : am_H, fr [a] h h1 → h1[a]? = some (.inl (1, n, .inr (.inl (vp_updL f i0.toNatClampNeg x)))) → ar P X d j (pc + 1) ls r h1 Q) : ar P X d j pc ls (.long x :: .int i0 :: .ref a :: r) h Q :=
  ar_set (e := .inl (1, n, .inr (.inl (vp_updL f i0.toNatClampNeg x)))) hM hi rfl (by simp only [am_exH, am_last, hh]; rw [if_pos ⟨trivial, am_in_ix hin⟩]; rfl) hh rfl kk
-- branches
theorem ar_if {c : ClassFile.Cond} {off : Int} {t : Nat} {x : Int32} {r : List Value} (hM : P.1[j]? = some M) (hi : M.2.2.2.2.2[pc]? = some (some (.ifCond c off, len))) (ht : am_tg pc off = some t) (k1 : am_c2 c x 0 = true → ar P X d j t ls r h Q) (k2 : am_c2 c x 0 = false → ar P X d j (pc + 3) ls r h Q) : ar P X d j pc ls (.int x :: r) h Q := by
  cases hc : am_c2 c x 0 with
  | true => exact ar_P hM hi (by simp only [am_exP, ht, hc, if_true]; rfl) (k1 hc)
  | false => exact ar_P hM hi (by simp only [am_exP, ht, hc]; rfl) (k2 hc)
theorem ar_icmp {c : ClassFile.Cond} {off : Int} {t : Nat} {x y : Int32} {r : List Value} (hM : P.1[j]? = some M) (hi : M.2.2.2.2.2[pc]? = some (some (.if_icmp c off, len))) (ht : am_tg pc off = some t) (k1 : am_c2 c x y = true → ar P X d j t ls r h Q) (k2 : am_c2 c x y = false → ar P X d j (pc + 3) ls r h Q) : ar P X d j pc ls (.int y :: .int x :: r) h Q := by
  cases hc : am_c2 c x y with
  | true => exact ar_P hM hi (by simp only [am_exP, ht, hc, if_true]; rfl) (k1 hc)
  | false => exact ar_P hM hi (by simp only [am_exP, ht, hc]; rfl) (k2 hc)
theorem ar_idiv {x y : Int32} {r : List Value} (hM : P.1[j]? = some M) (hi : M.2.2.2.2.2[pc]? = some (some (.idiv, len))) (hy : ¬ y = 0) (k : ar P X d j (pc + 1) ls (.int (x / y) :: r) h Q) : ar P X d j pc ls (.int y :: .int x :: r) h Q :=
  ar_P hM hi (by simp only [am_exP, am_i2, if_neg hy]; rfl) k
theorem ar_irem {x y : Int32} {r : List Value} (hM : P.1[j]? = some M) (hi : M.2.2.2.2.2[pc]? = some (some (.irem, len))) (hy : ¬ y = 0) (k : ar P X d j (pc + 1) ls (.int (x - x / y * y) :: r) h Q) : ar P X d j pc ls (.int y :: .int x :: r) h Q :=
  ar_P hM hi (by simp only [am_exP, am_i2, if_neg hy]; rfl) k
theorem ar_lrem {x y : Int64} {r : List Value} (hM : P.1[j]? = some M) (hi : M.2.2.2.2.2[pc]? = some (some (.lrem, len))) (hy : ¬ y = 0) (k : ar P X d j (pc + 1) ls (.long (x - x / y * y) :: r) h Q) : ar P X d j pc ls (.long y :: .long x :: r) h Q :=
  ar_P hM hi (by simp only [am_exP, am_l2, if_neg hy]; rfl) k
theorem ar_top {v w : Value} {r : List Value} (e : v = w) (k : ar P X d j pc ls (w :: r) h Q) : ar P X d j pc ls (v :: r) h Q := by rw [e]; exact k
theorem ar_aast {n a v : Nat} {f : Nat → Option Nat} {i0 : Int32} {r : List Value} (hM : P.1[j]? = some M) (hi : M.2.2.2.2.2[pc]? = some (some (.aastore, len))) (hh : h[a]? = some (.inl (3, n, .inr (.inr (.inr (.inr f)))))) {k2 : Nat} {g : Nat → Int64} (hv : h[v]? = some (.inl (1, k2, .inr (.inl g)))) (hin : vp_in i0 n)
    (kk : ∀ h1 : am_H, fr [a] h h1 → h1[a]? = some (.inl (3, n, .inr (.inr (.inr (.inr (va_up f i0.toNatClampNeg (some v))))))) → ar P X d j (pc + 1) ls r h1 Q) : ar P X d j pc ls (.ref v :: .int i0 :: .ref a :: r) h Q :=
  ar_set (e := .inl (3, n, .inr (.inr (.inr (.inr (va_up f i0.toNatClampNeg (some v))))))) hM hi rfl (by simp only [am_exH, am_aast, hh, hv]; rw [if_pos ⟨trivial, trivial, am_in_ix hin⟩]; rfl) hh rfl kk
theorem ar_cpyl {k j0 na ci n0 n1 a b : Nat} {f g : Nat → Int64} {sp dp n : Int32} {r : List Value} (hM : P.1[j]? = some M) (hi : M.2.2.2.2.2[pc]? = some (some (.invokestatic k, len))) (hY : P.2.2.1 M.2.2.2.2.1 k = some (7, j0, na, ci)) (hd : 0 < d) (hw : am_w r ≤ 8) (ha : h[a]? = some (.inl (1, n0, .inr (.inl f)))) (hb : h[b]? = some (.inl (1, n1, .inr (.inl g)))) (h1 : ¬ sp < 0) (h2 : ¬ dp < 0) (h3 : ¬ n < 0) (h4 : sp.toNatClampNeg + n.toNatClampNeg ≤ n0) (h5 : dp.toNatClampNeg + n.toNatClampNeg ≤ n1)
    (kk : ∀ h1 : am_H, fr [b] h h1 → h1[b]? = some (.inl (1, n1, .inr (.inl (va_cpy f g sp.toNatClampNeg dp.toNatClampNeg n.toNatClampNeg)))) → ar P X d j (pc + 3) ls r h1 Q) : ar P X d j pc ls (.int n :: .int dp :: .ref b :: .int sp :: .ref a :: r) h Q :=
  ar_set (e := .inl (1, n1, .inr (.inl (va_cpy f g sp.toNatClampNeg dp.toNatClampNeg n.toNatClampNeg)))) hM hi (by simp only [am_exP, am_min, hY]) (by simp only [am_exH, am_cpy, hY, ha, hb]; rw [if_pos ⟨hd, hw, h1, h2, h3, h4, h5⟩]; rfl) hb rfl kk
theorem ar_mmin {k j0 na ci : Nat} {x y z : Int32} {r : List Value} (hM : P.1[j]? = some M) (hi : M.2.2.2.2.2[pc]? = some (some (.invokestatic k, len))) (hY : P.2.2.1 M.2.2.2.2.1 k = some (6, j0, na, ci)) (hd : 0 < d) (hw : am_w r ≤ 8) (hz : (if y < x then y else x) = z) (kk : ar P X d j (pc + 3) ls (.int z :: r) h Q) : ar P X d j pc ls (.int y :: .int x :: r) h Q :=
  ar_P hM hi (by simp only [am_exP, am_min, hY]; rw [if_pos ⟨hd, hw⟩, hz]; rfl) kk
/-- an answer -/
theorem ar_ret {r : Option Value} (hM : P.1[j]? = some M) (hi : M.2.2.2.2.2[pc]? = some (some (i, len))) (hp : am_exP P X d M i pc ls st h = none) (hh : am_exH P d M i pc ls st h = none) (hc : am_exC P M i st h = some (.inl r)) (k : Q r h) : ar P X d j pc ls st h Q := ar_R hM hi hp hh hc k
theorem ar_zret {v : Int32} (hM : P.1[j]? = some M) (hi : M.2.2.2.2.2[pc]? = some (some (.ireturn, len))) (ht : M.2.2.2.1 = some .boolean) (hv : v = 0 ∨ v = 1) (k : Q (some (.int v)) h) : ar P X d j pc ls [.int v] h Q :=
  ar_R (r := some (.int v)) hM hi rfl rfl (by simp only [am_exC, ht, am_ret]; rw [if_pos hv]; rfl) k
/-- a call of an object's method -/
theorem ar_CV {k kd j2 na ci o : Nat} {fs bs r : List Value} {M2 : am_M} {Q1 : Option Value → am_H → Prop} (hM : P.1[j]? = some M) (hi : M.2.2.2.2.2[pc]? = some (some (.invokevirtual k, len))) (hY : P.2.2.1 M.2.2.2.2.1 k = some (kd, j2, na, ci)) (hkd : kd = 1 ∨ kd = 2) (hdr : st.drop na = .ref o :: r) (htk : (st.take na).reverse = bs) (hw : am_w r ≤ 8) (hh : h[o]? = some (.inr (ci, fs))) (hM2 : P.1[j2]? = some M2) (hen : (am_en (.ref o :: bs)).length ≤ M2.2.2.1)
    (hcall : ar P X d j2 0 (am_pad M2.2.2.1 (am_en (.ref o :: bs))) [] h Q1) (kk : ∀ r1 h1, Q1 r1 h1 → h1.map am_se = h.map am_se ∧ ar P X (d + 1) j (pc + 3) ls (r1.toList ++ r) h1 Q) : ar P X (d + 1) j pc ls st h Q := by
  refine ar_C hM hi rfl rfl ?_ hM2 hen hcall (fun r1 h1 hq => ⟨?_, (kk r1 h1 hq).2⟩)
  · simp only [am_exC, am_cvi, hY, hdr]
    rw [if_pos ⟨hkd, hw, by simp [am_rc, hh]⟩, htk]
    rfl
  · have := congrArg List.length (kk r1 h1 hq).1
    simpa using this
/-- a call of a static method -/
theorem ar_CS {k j2 na ci : Nat} {bs r : List Value} {M2 : am_M} {Q1 : Option Value → am_H → Prop} (hM : P.1[j]? = some M) (hi : M.2.2.2.2.2[pc]? = some (some (.invokestatic k, len))) (hY : P.2.2.1 M.2.2.2.2.1 k = some (0, j2, na, ci)) (hna : na ≤ st.length) (hdr : st.drop na = r) (htk : (st.take na).reverse = bs) (hw : am_w r ≤ 8) (hM2 : P.1[j2]? = some M2) (hen : (am_en bs).length ≤ M2.2.2.1)
    (hcall : ar P X d j2 0 (am_pad M2.2.2.1 (am_en bs)) [] h Q1) (kk : ∀ r1 h1, Q1 r1 h1 → h1.map am_se = h.map am_se ∧ ar P X (d + 1) j (pc + 3) ls (r1.toList ++ r) h1 Q) : ar P X (d + 1) j pc ls st h Q := by
  subst hdr
  subst htk
  refine ar_C hM hi (by simp only [am_exP, am_min, hY]) (by simp only [am_exH, am_cpy, hY]) ?_ hM2 hen hcall (fun r1 h1 hq => ⟨?_, (kk r1 h1 hq).2⟩)
  · simp only [am_exC, am_cst, hY]
    rw [if_pos ⟨hna, hw⟩]
    rfl
  · have := congrArg List.length (kk r1 h1 hq).1
    simpa using this
end AR
