/-! A run of the abstract machine is a walk of the machine -/
def am_isr (i : Instr) (t : Option FieldType) (r : Option Value) : Prop :=
  (i = .ireturn ∧ ∃ v, r = some (.int v) ∧ (t = some .int ∨ (t = some .boolean ∧ (v = 0 ∨ v = 1)))) ∨ (i = .lreturn ∧ ∃ v, r = some (.long v) ∧ t = some .long) ∨ (i = .areturn ∧ ∃ a n, r = some (.ref a) ∧ t = some (.object n)) ∨ (i = .return_ ∧ r = none ∧ t = none)
def am_rm (d mc ms : Nat) : Room := { frames := d, cells := mc, slots := ms, locals := 40 * d }
theorem am_mono {P : am_P} {X : am_X} : ∀ (n d j pc : Nat) (ls : am_L) (st : List Value) (h h' : am_H) (r : Option Value), am_run P X n d j pc ls st h = some (r, h') → h.length ≤ h'.length ∧ am_sz h ≤ am_sz h' := by
  intro n
  induction n with
  | zero => intro d j pc ls st h h' r hr; cases hr
  | succ n ih =>
    intro d j pc ls st h h' r hr
    rw [am_run] at hr
    split at hr
    next => cases hr
    next M hM =>
      split at hr
      next i len hi =>
        split at hr
        next pc' ls' st' hp => exact ih _ _ _ _ _ _ _ _ hr
        next hp =>
          split at hr
          next pc' ls' st' h1 hh =>
            split at hr
            next hm =>
              have := ih _ _ _ _ _ _ _ _ hr
              omega
            next => cases hr
          next hh =>
            split at hr
            next r0 hc =>
              cases hr
              omega
            next j2 as st' hc =>
              split at hr
              next => cases hr
              next d1 =>
                split at hr
                next => cases hr
                next M2 hM2 =>
                  split at hr
                  next hle =>
                    split at hr
                    next => cases hr
                    next r1 h1 hrun =>
                      split at hr
                      next hcl =>
                        have g1 := ih _ _ _ _ _ _ _ _ hrun
                        have g2 := ih _ _ _ _ _ _ _ _ hr
                        omega
                      next => cases hr
                  next => cases hr
            next => cases hr
      next => cases hr
section AMS
variable (P : am_P) (X : am_X) (cl : List vw_C) (WS NW : List Cond) (ST : Nat → String × String × String) (EC : String) (D : va_G) (cA : Nat → ClassId) (l : Launch)
def am_Sd (n : Nat) : Prop :=
  ∀ (d j : Nat) (M : am_M) (pc : Nat) (ls : am_L) (st : List Value) (h h' : am_H) (r : Option Value), P.1[j]? = some M → am_run P X n d j pc ls st h = some (r, h') →
  ∀ (p : Program) (e : Env) (R : Room) (s : State) (m : MethodId) (args : Array Value) (below : List Frame) (meth : Method) (c : Code) (H : Heap) (locs : List Loc) (cells slots mc ms n0 : Nat) (A : Nat → Prop) (ad0 ad : Nat → Nat) (lsC : Array Slot) (Q : State → Prop),
    am_C P.2.2.2.2.2.2.2 X NW ST WS D cl cA EC (fun k => ad0 (am_x0 + k)) A M p s m args meth c → am_J D cl cA A s.heap ad H locs h → lv_has lsC M.2.2.1 (am_as ad 0 ls) → ls.length = M.2.2.1 →
    n0 ≤ h.length → am_ag n0 ad0 ad → (h.length = n0 → ad = ad0) → cells + h'.length ≤ mc + h.length → slots + am_sz h' ≤ ms + am_sz h → mc ≤ R.cells → ms ≤ R.slots → d ≤ R.frames → 40 * d ≤ R.locals →
    (∀ (ad' : Nat → Nat) (H' : Heap) (locs' : List Loc) (pc' : Nat) (lsC' : Array Slot) (i : Instr), am_ag n0 ad0 ad' → (h'.length = n0 → ad' = ad0) → am_J D cl cA A s.heap ad' H' locs' h' → decode M.2.1 pc' = .ok (i, 1) → am_isr i M.2.2.2.1 r → W p l e R s m args below meth c H' locs' mc ms Q (F0 m pc' lsC' ((r.map (am_tv ad')).toList))) →
    W p l e R s m args below meth c H locs cells slots Q (F0 m pc lsC (st.map (am_tv ad)))
/-- a contract's start and end -/
def am_Pre (ad : Nat → Nat) (sz : Nat) (h : am_H) (U : State) : Prop := U.heap.size = sz ∧ va_P D cl (am_tw ad cA h) U.heap ∧ va_K D cl (am_tys cA EC) U ∧ va_D (fun _ => True) (am_tw ad cA h) ∧ am_EX EC X NW ST (fun k => ad (am_x0 + k)) (va_A (am_tw ad cA h) sz) U U.heap
def am_Qc (ad : Nat → Nat) (A : Nat → Prop) (n0 : Nat) (r : Option Value) (h' : am_H) : Array Value → State → Outcome → State → Prop := fun _ st oc t =>
  (∃ ad' : Nat → Nat, am_ag n0 ad ad' ∧ (h'.length = n0 → ad' = ad) ∧ oc = .returned (r.map (am_tv ad')) ∧ va_P D cl (am_tw ad' cA h') t.heap ∧ va_D A (am_tw ad' cA h')) ∧ va_F A st t
end AMS
section AMT
variable {P : am_P} {X : am_X} {cl : List vw_C} {WS NW : List Cond} {ST : Nat → String × String × String} {EC : String} {D : va_G} {cA : Nat → ClassId} {l : Launch}
set_option maxHeartbeats 1000000 in
theorem am_met {n : Nat} (hn : am_Sd P X cl WS NW ST EC D cA l n) {d j : Nat} {M : am_M} {as : List Value} {h h' : am_H} {r : Option Value} (hM : P.1[j]? = some M) (hpl : plainFor M.1 = true) (hcn : M.1.cls = P.2.2.2.2.2.2.2 M.2.2.2.2.1) (hen : (am_en as).length ≤ M.2.2.1) (hrun : am_run P X n d j 0 (am_pad M.2.2.1 (am_en as)) [] h = some (r, h')) (ad : Nat → Nat) (sz : Nat) :
    Met l M.1 (Cond.code M.1 M.2.1 M.2.2.1 M.2.2.2.1 :: WS) (am_rm d (h'.length - h.length) (am_sz h' - am_sz h)) (va_Pc (as.map (am_tv ad)) (am_Pre X cl NW ST EC D cA ad sz h)) (am_Qc cl D cA ad (va_A (am_tw ad cA h) sz) h.length r h') (h'.length - h.length) (am_sz h' - am_sz h) (va_A (am_tw ad cA h) sz) := by
  have hmono := am_mono _ _ _ _ _ _ _ _ _ hrun
  refine va_MetF (cc := M.2.1) (maxL := M.2.2.1) (ret := M.2.2.2.1) hpl rfl ?_
  intro p e s m args below meth c s₁ B hml hv
  obtain ⟨rfl, hsz, hP, hK, hD0, hE⟩ := hv
  have hx := B.exec
  have hb := B.bytes
  have hr := B.returns
  have hts := atoms_spec (ws := Cond.code M.1 M.2.1 M.2.2.1 M.2.2.2.1 :: WS) B.pre
  have hown : s.vm.findClass (P.2.2.2.2.2.2.2 M.2.2.2.2.1) = some m.cls := by rw [← hcn]; exact findClass_of_methodNamed B.named
  have hlocks := B.notSynchronized
  have hin : meth.name = M.1.name := (name_of_methodNamed B.named B.method).1
  subst hsz
  have hD := hD0.self (sz := s.heap.size)
  generalize hAe : va_A (am_tw ad cA h) s.heap.size = A at hD hE ⊢
  have hA : ∀ q : Nat, s.heap.size ≤ q → A q := fun q h => by rw [← hAe]; exact Or.inr h
  have hS : va_S A s.heap s.heap [] := va_S.rf
  have hl := am_entry ad as hen
  rw [lg_entry_eq]
  refine hn d j M 0 _ [] h h' r hM hrun p e (am_rm d (h'.length - h.length) (am_sz h' - am_sz h)) s m _ below meth c s.heap [] 0 0 (h'.length - h.length) (am_sz h' - am_sz h) h.length A ad ad _ _ ⟨hx, hb, hml, hr, fun w hw => hts w (List.mem_cons_of_mem _ hw), hown, hlocks, fun z => by rw [hin]; exact z, hK, hA, hE⟩ ⟨hP, hD, hS⟩ hl ?_ (Nat.le_refl _) (am_ag.rf _ _) (fun _ => rfl) (by omega) (by omega) (Nat.le_refl _) (Nat.le_refl _) (Nat.le_refl _) (Nat.le_refl _) ?_
  · unfold am_pad
    rw [List.length_append, List.length_replicate]
    omega
  · intro ad' H' locs' pc' lsC' i hag hne hJ hd hi
    obtain ⟨hP', hD', hS'⟩ := hJ
    have hq : ∀ t : State, t.heap = H' → s.WarmedH t.vm → am_Qc cl D cA ad A h.length r h' (as.map (am_tv ad)).toArray s (.returned (r.map (am_tv ad'))) t := fun t ht _ => ⟨⟨ad', hag, hne, rfl, by rw [ht]; exact hP', hD'⟩, hS'.F ht⟩
    rcases hi with ⟨rfl, v, rfl, ht⟩ | ⟨rfl, v, rfl, ht⟩ | ⟨rfl, a, nm, rfl, ht⟩ | ⟨rfl, rfl, ht⟩
    · rcases ht with ht | ⟨ht, h01⟩
      · exact W.zret (v := v) (ty := .int) hx hb (by rw [hr]; exact ht) rfl hq hS'.2.2 hd
      · exact W.zret (v := v) (ty := .boolean) hx hb (by rw [hr]; exact ht) (by rcases h01 with rfl | rfl <;> rfl) hq hS'.2.2 hd
    · exact W.lret (v := v) hx hb (by rw [hr]; exact ht) hq hS'.2.2 hd
    · exact W.aret (v := .ref (ad' a)) (rt := .object nm) hx hb (by rw [hr]; exact ht) (Or.inl ⟨nm, rfl⟩) (Or.inr ⟨_, rfl⟩) hq hS'.2.2 hd
    · exact W.vret hx hb (by rw [hr]; exact ht) hq hS'.2.2 hd
theorem am_good {M : am_M} (hW : am_GW WS) (hc : Cond.code M.1 M.2.1 M.2.2.1 M.2.2.2.1 ∈ WS) : GoodIn WS (Cond.code M.1 M.2.1 M.2.2.1 M.2.2.2.1 :: WS) := by
  intro w hw
  rcases List.mem_cons.mp hw with rfl | hw
  · exact ⟨hc, Or.inl rfl⟩
  · exact ⟨hw, hW w hw⟩
theorem am_blind (hN : am_GNW NW) (av : List Value) (ad : Nat → Nat) (sz : Nat) (h : am_H) : FrameBlind (va_Pc av (am_Pre X cl NW ST EC D cA ad sz h)) := by
  intro a U g mk q
  obtain ⟨q0, q1, qP, qK, qD, qE⟩ := q
  exact ⟨q0, q1, qP, va_K.moved (u := U) (U := U.calling g mk a) (Vm.Alike.refl U.vm) qK, qD, am_EX.same (s := U) (U := U.calling g mk a) hN rfl qE⟩
theorem am_ret_sp {t : Option FieldType} {st : List Value} {r : Option Value} (h : am_ret t st = some (.inl r)) : ∃ v, st = [.int v] ∧ r = some (.int v) ∧ (t = some .int ∨ (t = some .boolean ∧ (v = 0 ∨ v = 1))) := by
  unfold am_ret at h
  split at h
  · cases h
    exact ⟨_, rfl, rfl, Or.inl rfl⟩
  · split at h
    next h01 =>
      cases h
      exact ⟨_, rfl, rfl, Or.inr ⟨rfl, h01⟩⟩
    next => cases h
  · cases h
theorem am_lrt_sp {t : Option FieldType} {st : List Value} {r : Option Value} (h : am_lrt t st = some (.inl r)) : ∃ v, st = [.long v] ∧ r = some (.long v) ∧ t = some .long := by
  unfold am_lrt at h
  split at h
  · cases h
    exact ⟨_, rfl, rfl, rfl⟩
  · cases h
theorem am_art_sp {t : Option FieldType} {st : List Value} {r : Option Value} (h : am_art t st = some (.inl r)) : ∃ a n, st = [.ref a] ∧ r = some (.ref a) ∧ t = some (.object n) := by
  unfold am_art at h
  split at h
  · cases h
    exact ⟨_, _, rfl, rfl, rfl⟩
  · cases h
theorem am_vrt_sp {t : Option FieldType} {st : List Value} {r : Option Value} (h : am_vrt t st = some (.inl r)) : st = [] ∧ r = none ∧ t = none := by
  unfold am_vrt at h
  split at h
  · cases h
    exact ⟨rfl, rfl, rfl⟩
  · cases h
theorem am_cst_sp {y : Option (Nat × Nat × Nat × Nat)} {st : List Value} {R : am_T} (h : am_cst y st = some R) : ∃ j na ci as st', R = .inr (j, as, st') ∧ y = some (0, j, na, ci) ∧ as.length = na ∧ st = as.reverse ++ st' ∧ am_w st' ≤ 8 := by
  unfold am_cst at h
  split at h
  next j na ci =>
    split at h
    next hc =>
      cases h
      exact ⟨j, na, ci, _, _, rfl, rfl, by simp; omega, by simp, hc.2⟩
    next => cases h
  next => cases h
theorem am_cvi_sp {a b : Nat} {y : Option (Nat × Nat × Nat × Nat)} {st : List Value} {h : am_H} {R : am_T} (hc : am_cvi a b y st h = some R) : ∃ kd j na ci o bs st', R = .inr (j, .ref o :: bs, st') ∧ y = some (kd, j, na, ci) ∧ (kd = a ∨ kd = b) ∧ bs.length = na ∧ st = bs.reverse ++ .ref o :: st' ∧ am_w st' ≤ 8 ∧ am_rc h (.ref o) ci = true := by
  unfold am_cvi at hc
  split at hc
  next kd j na ci =>
    split at hc
    next o r hdr =>
      split at hc
      next hcnd =>
        cases hc
        have hlt : na < st.length := by
          have : (st.drop na).length ≠ 0 := by rw [hdr]; simp
          rw [List.length_drop] at this
          omega
        refine ⟨kd, j, na, ci, o, _, r, rfl, rfl, hcnd.1, by simp; omega, ?_, hcnd.2.1, hcnd.2.2⟩
        rw [List.reverse_reverse, ← hdr, List.take_append_drop]
      next => cases hc
    next => cases hc
  next => cases hc
theorem am_rc_sp {h : am_H} {o ci : Nat} (hc : am_rc h (.ref o) ci = true) : ∃ fs, h[o]? = some (.inr (ci, fs)) := by
  unfold am_rc at hc
  simp only at hc
  split at hc
  next cj fs hh =>
    simp only [decide_eq_true_eq] at hc
    subst hc
    exact ⟨fs, hh⟩
  next => cases hc
theorem am_exC_ret {M : am_M} {i : Instr} {st : List Value} {h : am_H} {r : Option Value} (hc : am_exC P M i st h = some (.inl r)) {len : Nat} (hlo : am_lo i len = true) : am_isr i M.2.2.2.1 r ∧ st = r.toList ∧ len = 1 := by
  cases i
  case ireturn =>
    simp only [am_lo, beq_iff_eq] at hlo
    obtain ⟨v, rfl, rfl, h3⟩ := am_ret_sp hc
    exact ⟨Or.inl ⟨rfl, v, rfl, h3⟩, rfl, hlo⟩
  case lreturn =>
    simp only [am_lo, beq_iff_eq] at hlo
    obtain ⟨v, rfl, rfl, h3⟩ := am_lrt_sp hc
    exact ⟨Or.inr (Or.inl ⟨rfl, v, rfl, h3⟩), rfl, hlo⟩
  case areturn =>
    simp only [am_lo, beq_iff_eq] at hlo
    obtain ⟨a, n, rfl, rfl, h3⟩ := am_art_sp hc
    exact ⟨Or.inr (Or.inr (Or.inl ⟨rfl, a, n, rfl, h3⟩)), rfl, hlo⟩
  case return_ =>
    simp only [am_lo, beq_iff_eq] at hlo
    obtain ⟨rfl, rfl, h3⟩ := am_vrt_sp hc
    exact ⟨Or.inr (Or.inr (Or.inr ⟨rfl, rfl, h3⟩)), rfl, hlo⟩
  case invokestatic k =>
    obtain ⟨_, _, _, _, _, h1, -⟩ := am_cst_sp hc
    cases h1
  case invokevirtual k =>
    obtain ⟨_, _, _, _, _, _, _, h1, -⟩ := am_cvi_sp hc
    cases h1
  case invokespecial k =>
    obtain ⟨_, _, _, _, _, _, _, h1, -⟩ := am_cvi_sp hc
    cases h1
  all_goals cases hc
set_option maxHeartbeats 4000000 in
theorem am_call (hG : am_G P cl WS NW ST EC) {n d1 j2 pc len : Nat} {M M2 : am_M} {as st st' : List Value} {h h1 : am_H} {r1 : Option Value} {p : Program} {e : Env} {R : Room} {s : State} {m : MethodId} {args : Array Value} {below : List Frame} {meth : Method} {c : Code} {H : Heap} {locs : List Loc} {cells slots : Nat} {A : Nat → Prop} {ad xa : Nat → Nat} {lsC : Array Slot} {Q : State → Prop}
    (hn : am_Sd P X cl WS NW ST EC D cA l n) (i : Instr) (hC : am_C P.2.2.2.2.2.2.2 X NW ST WS D cl cA EC xa A M p s m args meth c) (hxa : xa = fun k => ad (am_x0 + k)) (hJ : am_J D cl cA A s.heap ad H locs h) (hls : lsC.size = M.2.2.1) (hd : decode M.2.1 pc = .ok (i, len)) (hlo : am_lo i len = true) (hRf : d1 + 1 ≤ R.frames) (hRl : 40 * (d1 + 1) ≤ R.locals)
    (hc : am_exC P M i st h = some (.inr (j2, as, st'))) (hM2 : P.1[j2]? = some M2) (hen : (am_en as).length ≤ M2.2.2.1) (hrun : am_run P X n d1 j2 0 (am_pad M2.2.2.1 (am_en as)) [] h = some (r1, h1)) (hcR : cells + h1.length ≤ R.cells + h.length) (hsR : slots + am_sz h1 ≤ R.slots + am_sz h)
    (kC : ∀ (v : Option Value) (st₀ t : State) (H1 : Heap) (L : List Loc), st₀.heap = H → t.heap = H1 → am_Qc cl D cA ad (va_A (am_tw ad cA h) H.size) h.length r1 h1 (as.map (am_tv ad)).toArray st₀ (.returned v) t → (∀ q ∈ L, va_A (am_tw ad cA h) H.size q.base) →
      W p l e R s m args below meth c H1 (locs ++ L) (cells + (h1.length - h.length)) (slots + (am_sz h1 - am_sz h)) Q (F0 m (pc + 3) lsC (v.toList ++ st'.map (am_tv ad)))) :
    W p l e R s m args below meth c H locs cells slots Q (F0 m pc lsC (st.map (am_tv ad))) := by
  have hmono := am_mono _ _ _ _ _ _ _ _ _ hrun
  obtain ⟨hx, hb, hml, hr, hts, hown, hlk, hnm, hK, hA, hE⟩ := hC
  obtain ⟨hP, hD, hS⟩ := hJ
  obtain ⟨hGNW, hGF, hGC, hGN, hGY, hGM, hGS, hGW⟩ := hG
  have hFree : ∀ q, va_A (am_tw ad cA h) H.size q → A q := by
    intro q hq
    rcases hq with ⟨k, e0, hq⟩ | hq
    · exact hD.2 k _ hq
    · exact hA q (Nat.le_trans hS.1 hq)
  have hPre : ∀ U : State, U.heap = H → s.WarmedH U.vm → am_Pre X cl NW ST EC D cA ad H.size h U := by
    intro U hU hW
    refine ⟨by rw [hU], by rw [hU]; exact hP, va_K.moved hW.alike hK, hD.weaken (fun _ _ _ _ => trivial), ?_⟩
    rw [hU, ← hxa]
    exact ((hE.kept hS.2.1).narrow hFree).warm hGNW hW
  have hfits : cells + (h1.length - h.length) ≤ R.cells ∧ slots + (am_sz h1 - am_sz h) ≤ R.slots := ⟨by omega, by omega⟩
  have hRR : ∀ L0 : Nat, L0 ≤ 21 → (am_rm d1 (h1.length - h.length) (am_sz h1 - am_sz h)).frames + 1 ≤ R.frames ∧ 8 + (L0 + 11) + (am_rm d1 (h1.length - h.length) (am_sz h1 - am_sz h)).locals ≤ R.locals := by
    intro L0 hL
    exact ⟨hRf, by show 8 + (L0 + 11) + 40 * d1 ≤ _; omega⟩
  cases i
  case invokestatic k =>
    simp only [am_lo, beq_iff_eq] at hlo
    subst hlo
    obtain ⟨j0, na, ci, as0, st0, e0, hy, h3, rfl, h5⟩ := am_cst_sp hc
    cases e0
    obtain ⟨M3, hM3, ⟨c1, c2, c3, c4, c5, c6, c7⟩, q0, -⟩ := (hGY _ _ _ _ _ _ hy).1 (by decide)
    cases hM2.symm.trans hM3
    obtain ⟨w1, w2⟩ := q0 rfl
    refine am_callG (va_runS (own := P.2.2.2.2.2.2.2 M.2.2.2.2.1) (As := as.map (am_tv ad)) (rest := st'.map (am_tv ad)) (n := na) ⟨hx, hb, hml, hown, hts⟩ (am_met hn hM2 c1 (hGM _ _ hM2).1 hen hrun ad H.size) ⟨callB_of na hts (am_good hGW c3) rfl rfl rfl (hts _ c4) (hts _ w1) ⟨c5, c6, c7⟩ (hRR _ c2), hts _ w2⟩ ⟨am_blind hGNW _ _ _ _, fun U hU hW => ⟨rfl, hPre U hU hW⟩⟩ rfl (by rw [List.length_map]; exact h3) hls (by show List.map _ _ = _; rw [List.map_append, List.map_reverse]) (lv_room (by rw [am_w_map]; exact h5)) hd hfits) kC
  case invokevirtual k =>
    simp only [am_lo, beq_iff_eq] at hlo
    subst hlo
    obtain ⟨kd, j0, na, ci, o, bs, st0, e0, hy, hkd, h3, rfl, h5, h6⟩ := am_cvi_sp hc
    cases e0
    obtain ⟨fs, hfs⟩ := am_rc_sp h6
    have he : (am_tw ad cA h)[o]? = some (ad o, .inr (ci, fs.map (am_tv ad))) := am_tw_get hfs
    have hstk : ((bs.reverse ++ Value.ref o :: st').map (am_tv ad)) = (bs.map (am_tv ad)).reverse ++ Value.ref (ad o) :: st'.map (am_tv ad) := by rw [List.map_append, List.map_reverse]; rfl
    rcases hkd with rfl | rfl
    · obtain ⟨M3, hM3, ⟨c1, c2, c3, c4, c5, c6, c7⟩, -, q1, -⟩ := (hGY _ _ _ _ _ _ hy).1 (by decide)
      cases hM2.symm.trans hM3
      obtain ⟨w1, w2, w3, T, N, hcl⟩ := q1 rfl
      refine am_callG (va_runV (own := P.2.2.2.2.2.2.2 M.2.2.2.2.1) (C := M2.1.cls) (b := ad o) (As := bs.map (am_tv ad)) (rest := st'.map (am_tv ad)) (n := na) ⟨hx, hb, hml, hown, hts⟩ (am_met hn hM2 c1 (hGM _ _ hM2).1 hen hrun ad H.size) ⟨callB_of na hts (am_good hGW c3) rfl rfl rfl (hts _ c4) (hts _ w1) ⟨c5, c6, c7⟩ (hRR _ c2), hts _ w2, w3 _ _ hts⟩ ⟨am_blind hGNW _ _ _ _, va_recv hK hP hcl he, fun U hU hW => ⟨rfl, hPre U hU hW⟩⟩ rfl (by rw [List.length_map]; exact h3) hls hstk (lv_room (by rw [am_w_map]; exact h5)) hd hfits) kC
    · obtain ⟨M3, hM3, ⟨c1, c2, c3, c4, c5, c6, c7⟩, -, -, q2, -⟩ := (hGY _ _ _ _ _ _ hy).1 (by decide)
      cases hM2.symm.trans hM3
      obtain ⟨⟨host, w1⟩, w2, w3, T, N, hcl⟩ := q2 rfl
      refine am_callG (va_runVN (own := P.2.2.2.2.2.2.2 M.2.2.2.2.1) (host := host) (C := M2.1.cls) (b := ad o) (As := bs.map (am_tv ad)) (rest := st'.map (am_tv ad)) (n := na) ⟨hx, hb, hml, hown, hts⟩ (am_met hn hM2 c1 (hGM _ _ hM2).1 hen hrun ad H.size) ⟨va_cnB na hts (am_good hGW c3) rfl rfl rfl (hE.2.2.1 _ w1) (hts _ c4) ⟨c5, c6, c7⟩ (hRR _ c2), hts _ w2, w3 _ _ hts⟩ ⟨am_blind hGNW _ _ _ _, va_recv hK hP hcl he, fun U hU hW => ⟨rfl, hPre U hU hW⟩⟩ rfl (by rw [List.length_map]; exact h3) hls hstk (lv_room (by rw [am_w_map]; exact h5)) hd hfits) kC
  case invokespecial k =>
    simp only [am_lo, beq_iff_eq] at hlo
    subst hlo
    obtain ⟨kd, j0, na, ci, o, bs, st0, e0, hy, hkd, h3, rfl, h5, h6⟩ := am_cvi_sp hc
    cases e0
    have hstk : ((bs.reverse ++ Value.ref o :: st').map (am_tv ad)) = (bs.map (am_tv ad)).reverse ++ Value.ref (ad o) :: st'.map (am_tv ad) := by rw [List.map_append, List.map_reverse]; rfl
    rcases hkd with rfl | rfl
    · obtain ⟨M3, hM3, ⟨c1, c2, c3, c4, c5, c6, c7⟩, -, -, -, q3, -⟩ := (hGY _ _ _ _ _ _ hy).1 (by decide)
      cases hM2.symm.trans hM3
      obtain ⟨w1, w2, w3, w4⟩ := q3 rfl
      have hmet := am_met hn hM2 c1 (hGM _ _ hM2).1 hen hrun ad H.size
      obtain ⟨y2, b2, L2, ret2, cn2, code2⟩ := M2
      simp only at w4
      subst w4
      refine am_callG (va_runI (own := P.2.2.2.2.2.2.2 M.2.2.2.2.1) (b := ad o) (As := bs.map (am_tv ad)) (rest := st'.map (am_tv ad)) (n := na) ⟨hx, hb, hml, hown, hts⟩ hmet ⟨callB_of na hts (am_good (M := (y2, b2, L2, none, cn2, code2)) hGW c3) rfl rfl rfl (hts _ c4) (hts _ w1) ⟨c5, c6, c7⟩ (hRR _ c2), w3, hts _ w2⟩ ⟨am_blind hGNW _ _ _ _, fun U hU hW => ⟨rfl, hPre U hU hW⟩⟩ rfl (by rw [List.length_map]; exact h3) hls hstk (lv_room (by rw [am_w_map]; exact h5)) hd hfits) kC
    · obtain ⟨M3, hM3, ⟨c1, c2, c3, c4, c5, c6, c7⟩, -, -, -, -, q4⟩ := (hGY _ _ _ _ _ _ hy).1 (by decide)
      cases hM2.symm.trans hM3
      obtain ⟨⟨host, w1⟩, w2, w3, w4⟩ := q4 rfl
      have hmet := am_met hn hM2 c1 (hGM _ _ hM2).1 hen hrun ad H.size
      obtain ⟨y2, b2, L2, ret2, cn2, code2⟩ := M2
      simp only at w4
      subst w4
      refine am_callG (va_runIN (own := P.2.2.2.2.2.2.2 M.2.2.2.2.1) (host := host) (b := ad o) (As := bs.map (am_tv ad)) (rest := st'.map (am_tv ad)) (n := na) ⟨hx, hb, hml, hown, hts⟩ hmet ⟨va_cnB na hts (am_good (M := (y2, b2, L2, none, cn2, code2)) hGW c3) rfl rfl rfl (hE.2.2.1 _ w1) (hts _ c4) ⟨c5, c6, c7⟩ (hRR _ c2), w3, hts _ w2⟩ ⟨am_blind hGNW _ _ _ _, fun U hU hW => ⟨rfl, hPre U hU hW⟩⟩ rfl (by rw [List.length_map]; exact h3) hls hstk (lv_room (by rw [am_w_map]; exact h5)) hd hfits) kC
  case ireturn =>
    have hc : am_ret M.2.2.2.1 st = some (.inr (j2, as, st')) := hc
    unfold am_ret at hc
    (repeat' split at hc) <;> cases hc
  case lreturn =>
    have hc : am_lrt M.2.2.2.1 st = some (.inr (j2, as, st')) := hc
    unfold am_lrt at hc
    (repeat' split at hc) <;> cases hc
  case areturn =>
    have hc : am_art M.2.2.2.1 st = some (.inr (j2, as, st')) := hc
    unfold am_art at hc
    (repeat' split at hc) <;> cases hc
  case return_ =>
    have hc : am_vrt M.2.2.2.1 st = some (.inr (j2, as, st')) := hc
    unfold am_vrt at hc
    (repeat' split at hc) <;> cases hc
  all_goals cases hc
set_option maxHeartbeats 4000000 in
theorem am_step (hG : am_G P cl WS NW ST EC) {n : Nat} (hn : am_Sd P X cl WS NW ST EC D cA l n) : am_Sd P X cl WS NW ST EC D cA l (n + 1) := by
  intro d j M pc ls st h h' r hM hr p e R s m args below meth c H locs cells slots mc ms n0 A ad0 ad lsC Q hC hJ hl hll hn0 hag hne hcc hss hcR hsR hRf hRl hend
  have hmono := am_mono _ _ _ _ _ _ _ _ _ hr
  rw [am_run] at hr
  rw [hM] at hr
  simp only at hr
  have hxa : ∀ k, k < 3 → (fun k => ad0 (am_x0 + k)) k = ad (am_x0 + k) := fun k _ => (hag _ (Or.inr (Nat.le_add_right _ _))).symm
  split at hr
  next i len hi =>
    obtain ⟨hd, hlo, hpf⟩ := (hG.2.2.2.2.2.1 j M hM).2 pc i len hi
    split at hr
    next pc' ls' st' hp =>
      exact am_plain hG i hC hxa hJ hl hll hd hlo hRf hRl (by omega) (by omega) hp (fun lsC' g1 g2 => hn d j M pc' ls' st' h h' r hM hr p e R s m args below meth c H locs cells slots mc ms n0 A ad0 ad lsC' Q hC hJ g1 g2 hn0 hag hne hcc hss hcR hsR hRf hRl hend)
    next hp =>
      split at hr
      next pc' ls' st' h1 hh =>
        split at hr
        next hm =>
          have hm2 := am_mono _ _ _ _ _ _ _ _ _ hr
          exact am_heap hG i hC hJ hl hll hd hlo hpf hRf hRl (by omega) (by omega) hh hm (fun ad' H1 locs1 cells1 slots1 g1 g2 g3 g4 g5 g6 g7 => hn d j M pc' ls' st' h1 h' r hM hr p e R s m args below meth c H1 locs1 cells1 slots1 mc ms n0 A ad0 ad' lsC Q hC g3 g4 g5 (by omega) (hag.tr g1 hn0) (fun z => by rw [g2 (by omega), hne (by omega)]) (by omega) (by omega) hcR hsR hRf hRl hend)
        next => cases hr
      next hh =>
        split at hr
        next r0 hc =>
          cases hr
          refine W.widen (k := mc) (n := ms) (by omega) (by omega) ?_
          obtain ⟨hi', hst, hl1⟩ := am_exC_ret hc hlo
          subst hl1
          rw [hst]
          have e1 : r.toList.map (am_tv ad) = (r.map (am_tv ad)).toList := by cases r <;> rfl
          rw [e1]
          exact hend ad H locs pc lsC i hag hne hJ hd hi'
        next j2 as st' hc =>
          split at hr
          next => cases hr
          next d1 =>
            split at hr
            next => cases hr
            next M2 hM2 =>
              split at hr
              next hle =>
                split at hr
                next => cases hr
                next r1 h1 hrun =>
                  split at hr
                  next hcl =>
                    have g1 := am_mono _ _ _ _ _ _ _ _ _ hrun
                    have g2 := am_mono _ _ _ _ _ _ _ _ _ hr
                    refine am_call hG hn i hC (funext fun k => (hag _ (Or.inr (Nat.le_add_right _ _))).symm) hJ hl.1 hd hlo hRf hRl hc hM2 hle hrun (by omega) (by omega) ?_
                    intro v st₀ t H1 L k0 k1 hQ hL
                    obtain ⟨⟨ad', hag', hne', hv, hP1, hD1⟩, hF⟩ := hQ
                    cases hv
                    obtain ⟨hP, hD, hS⟩ := hJ
                    have hA := hC.2.2.2.2.2.2.2.2.2.1
                    have hFree : ∀ q, va_A (am_tw ad cA h) H.size q → A q := by
                      intro q hq
                      rcases hq with ⟨k, e0, hq⟩ | hq
                      · exact hD.2 k _ hq
                      · exact hA q (Nat.le_trans hS.1 hq)
                    have hcls : st'.map (am_tv ad') = st'.map (am_tv ad) ∧ am_as ad' 0 ls = am_as ad 0 ls := by
                      rcases hcl with z | z
                      · rw [hne' z]
                        exact ⟨rfl, rfl⟩
                      · simp only [Bool.and_eq_true] at z
                        exact ⟨am_cs_map hag' z.1.2, am_co_as hag' _ _ z.1.1⟩
                    have e1 : (r1.map (am_tv ad')).toList ++ st'.map (am_tv ad) = (r1.toList ++ st').map (am_tv ad') := by
                      rw [List.map_append, hcls.1]
                      cases r1 <;> rfl
                    rw [e1]
                    have hS1 : va_S A s.heap H1 (locs ++ L) := by
                      obtain ⟨f1, f2⟩ := hF
                      rw [k0, k1] at f1
                      rw [k0, k1] at f2
                      refine ⟨Nat.le_trans hS.1 f1, fun q hq hnA => ?_, fun q hq => ?_⟩
                      · rw [f2 q (Nat.lt_of_lt_of_le hq hS.1) (fun z => hnA (hFree q z))]
                        exact hS.2.1 q hq hnA
                      · rcases List.mem_append.mp hq with z | z
                        · exact hS.2.2 q z
                        · exact hFree _ (hL q z)
                    rw [k1] at hP1
                    exact hn (d1 + 1) j M (pc + 3) ls (r1.toList ++ st') h1 h' r hM hr p e R s m args below meth c H1 (locs ++ L) _ _ mc ms n0 A ad0 ad' lsC Q hC ⟨hP1, hD1.weaken (fun _ q _ z => hFree _ z), hS1⟩ (by rw [hcls.2]; exact hl) hll (by omega) (hag.tr hag' hn0) (fun z => by rw [hne' (by omega), hne (by omega)]) (by omega) (by omega) hcR hsR hRf hRl hend
                  next => cases hr
              next => cases hr
        next => cases hr
  next => cases hr
theorem am_sound (hG : am_G P cl WS NW ST EC) : ∀ n, am_Sd P X cl WS NW ST EC D cA l n
  | 0 => by
    intro d j M pc ls st h h' r hM hr
    cases hr
  | n + 1 => am_step hG (am_sound hG n)
end AMT
