/-! Instructions that change or make a cell -/
theorem am_innerC (c : ClassId) (K : Nat) : Jvm.Free.Multi.innerC c K (defaultValue .long) = vp_cell c (K, .inr (.inl (fun _ => 0))) := by
  rw [vp_cell_l, ← arrV_new]
  rfl
theorem am_assign (vm : Vm) (c : ClassId) : vm.assignable c c = true := by
  unfold Vm.assignable
  rw [show (256 : Nat) = 255 + 1 from rfl, Vm.assignableAux]
  simp
theorem am_sz_app (h g : am_H) : am_sz (h ++ g) = am_sz h + am_sz g := by simp [am_sz]
section AMH
variable {D : va_G} {cl : List vw_C} {cA : Nat → ClassId} {A : Nat → Prop} {ad : Nat → Nat}
theorem am_grow {h : am_H} {H1 : Heap} {q : Nat} {e : am_E} {E : va_E} {ls : am_L} {st : List Value} (hchk : am_chk ls st h = true) (he : am_te (va_up ad h.length q) cA e = E) (hP : va_P D cl (am_tw ad cA h ++ [(q, E)]) H1) (hD : va_D A (am_tw ad cA h ++ [(q, E)])) :
    va_P D cl (am_tw (va_up ad h.length q) cA (h ++ [e])) H1 ∧ va_D A (am_tw (va_up ad h.length q) cA (h ++ [e])) := by
  simp only [am_chk, Bool.and_eq_true, decide_eq_true_eq] at hchk
  obtain ⟨⟨⟨-, -⟩, hcl⟩, hn⟩ := hchk
  have hag := am_ag.up ad q hn
  have e1 : am_tw (va_up ad h.length q) cA (h ++ [e]) = am_tw (va_up ad h.length q) cA h ++ [(q, E)] := by
    unfold am_tw
    rw [List.mapIdx_concat, va_up_self, he]
  have hP1 : va_P D cl (am_tw ad cA h) H1 := fun k x hk => hP k x (by
    have hlt := (List.getElem?_eq_some_iff.mp hk).1
    rw [List.getElem?_append_left hlt]
    exact hk)
  have hP2 : va_P D cl [(q, E)] H1 := fun k x hk => hP (h.length + k) x (by
    rw [List.getElem?_append_right (by rw [am_tw_len]; omega), am_tw_len, Nat.add_sub_cancel_left]
    exact hk)
  rw [e1]
  refine ⟨va_P.app (am_te_push hag rfl hcl hP1) hP2, am_D_of hD fun k => ?_⟩
  by_cases hk : k < h.length
  · rw [List.getElem?_append_left (by rw [am_tw_len]; exact hk), List.getElem?_append_left (by rw [am_tw_len]; exact hk), am_tw_ad, am_tw_ad, if_pos hk, if_pos hk, hag k (Or.inl hk)]
  · rw [List.getElem?_append_right (by rw [am_tw_len]; omega), List.getElem?_append_right (by rw [am_tw_len]; omega), am_tw_len, am_tw_len]
def am_adM (ad : Nat → Nat) (n N q : Nat) (r : Nat → Nat) : Nat → Nat := fun k => if k < n then ad k else if k = n then q else if k < n + 1 + N then r (k - n - 1) else ad k
theorem am_adM_ag (ad : Nat → Nat) (n N q : Nat) (r : Nat → Nat) (hn : n < 1000) (hN : N ≤ 100) : am_ag n ad (am_adM ad n N q r) := by
  intro k hk
  unfold am_adM
  unfold am_x0 at hk
  rcases hk with hk | hk
  · rw [if_pos hk]
  · rw [if_neg (by omega), if_neg (by omega), if_neg (by omega)]
theorem am_adM_n (ad : Nat → Nat) (n N q : Nat) (r : Nat → Nat) : am_adM ad n N q r n = q := by
  unfold am_adM
  rw [if_neg (by omega), if_pos rfl]
theorem am_adM_i (ad : Nat → Nat) (n N q : Nat) (r : Nat → Nat) {i : Nat} (hi : i < N) : am_adM ad n N q r (n + 1 + i) = r i := by
  unfold am_adM
  rw [if_neg (by omega), if_neg (by omega), if_pos (by omega)]
  congr 1
  omega
theorem am_growM {h : am_H} {H1 : Heap} {q N K : Nat} {r : Nat → Nat} {ls : am_L} {st : List Value} (hchk : am_chk ls st h = true) (hN : N ≤ 100)
    (hP : va_P D cl ((am_tw ad cA h ++ [(q, .inl (cA 3, N, .inr (.inr (.inr (.inr (fun i => if i < N then some (r i) else none))))))]) ++ (List.range N).map (fun i => (r i, .inl (cA 1, K, .inr (.inl (fun _ => 0)))))) H1) (hD : va_D A ((am_tw ad cA h ++ [(q, .inl (cA 3, N, .inr (.inr (.inr (.inr (fun i => if i < N then some (r i) else none))))))]) ++ (List.range N).map (fun i => (r i, .inl (cA 1, K, .inr (.inl (fun _ => 0))))))) :
    va_P D cl (am_tw (am_adM ad h.length N q r) cA (h ++ .inl (3, N, .inr (.inr (.inr (.inr (fun i => if i < N then some (h.length + 1 + i) else none))))) :: List.replicate N (.inl (1, K, .inr (.inl (fun _ => 0)))))) H1 ∧ va_D A (am_tw (am_adM ad h.length N q r) cA (h ++ .inl (3, N, .inr (.inr (.inr (.inr (fun i => if i < N then some (h.length + 1 + i) else none))))) :: List.replicate N (.inl (1, K, .inr (.inl (fun _ => 0)))))) := by
  simp only [am_chk, Bool.and_eq_true, decide_eq_true_eq] at hchk
  obtain ⟨⟨⟨-, -⟩, hcl⟩, hn⟩ := hchk
  have hag := am_adM_ag ad h.length N q r hn hN
  have e0 : am_te (am_adM ad h.length N q r) cA (.inl (3, N, .inr (.inr (.inr (.inr (fun i => if i < N then some (h.length + 1 + i) else none)))))) = .inl (cA 3, N, .inr (.inr (.inr (.inr (fun i => if i < N then some (r i) else none))))) := by
    have e1 : (fun j => Option.map (am_adM ad h.length N q r) (if j < N then some (h.length + 1 + j) else none)) = fun i => if i < N then some (r i) else none := by
      funext i
      by_cases hi : i < N
      · rw [if_pos hi, if_pos hi, Option.map_some, am_adM_i ad _ _ _ _ hi]
      · rw [if_neg hi, if_neg hi]
        rfl
    simp only [am_te, am_tc, e1]
  have e2 : am_tw (am_adM ad h.length N q r) cA (h ++ .inl (3, N, .inr (.inr (.inr (.inr (fun i => if i < N then some (h.length + 1 + i) else none))))) :: List.replicate N (.inl (1, K, .inr (.inl (fun _ => 0))))) = am_tw (am_adM ad h.length N q r) cA h ++ ((q, .inl (cA 3, N, .inr (.inr (.inr (.inr (fun i => if i < N then some (r i) else none)))))) :: (List.range N).map (fun i => (r i, .inl (cA 1, K, .inr (.inl (fun _ => 0)))))) := by
    unfold am_tw
    rw [List.mapIdx_append, List.mapIdx_cons, Nat.zero_add, am_adM_n, e0]
    congr 2
    apply List.ext_getElem?
    intro i
    by_cases hi : i < N
    · rw [List.getElem?_mapIdx, List.getElem?_map, List.getElem?_replicate, List.getElem?_range hi, if_pos hi]
      simp only [Option.map_some]
      rw [show i + 1 + h.length = h.length + 1 + i by omega, am_adM_i ad _ _ _ _ hi]
      rfl
    · rw [List.getElem?_eq_none (by simp; omega), List.getElem?_eq_none (by simp; omega)]
  rw [List.append_assoc] at hP hD
  have hP1 : va_P D cl (am_tw ad cA h) H1 := fun k x hk => hP k x (by
    have hlt := (List.getElem?_eq_some_iff.mp hk).1
    rw [List.getElem?_append_left hlt]
    exact hk)
  have hP2 : va_P D cl ((q, .inl (cA 3, N, .inr (.inr (.inr (.inr (fun i => if i < N then some (r i) else none)))))) :: (List.range N).map (fun i => (r i, .inl (cA 1, K, .inr (.inl (fun _ => 0)))))) H1 := fun k x hk => hP (h.length + k) x (by
    rw [List.getElem?_append_right (by rw [am_tw_len]; omega), am_tw_len, Nat.add_sub_cancel_left]
    exact hk)
  rw [e2]
  refine ⟨va_P.app (am_te_push hag rfl hcl hP1) hP2, am_D_of hD fun k => ?_⟩
  by_cases hk : k < h.length
  · rw [List.getElem?_append_left (by rw [am_tw_len]; exact hk), List.getElem?_append_left (by rw [am_tw_len]; exact hk), am_tw_ad, am_tw_ad, if_pos hk, if_pos hk, hag k (Or.inl hk)]
  · rw [List.getElem?_append_right (by rw [am_tw_len]; omega), List.getElem?_append_right (by rw [am_tw_len]; omega), am_tw_len, am_tw_len]
    rfl
end AMH
section AMQ
variable {P : am_P} {X : am_X} {cl : List vw_C} {WS NW : List Cond} {ST : Nat → String × String × String} {EC : String} {D : va_G} {cA : Nat → ClassId} {l : Launch} {d : Nat} {M : am_M} {pc pc' len : Nat} {ls ls' : am_L} {st st' : List Value} {h h1 : am_H}
variable {p : Program} {e : Env} {R : Room} {s : State} {m : MethodId} {args : Array Value} {below : List Frame} {meth : Method} {c : Code} {H : Heap} {locs : List Loc} {cells slots : Nat} {A : Nat → Prop} {ad xa : Nat → Nat} {lsC : Array Slot} {Q : State → Prop}
theorem am_vt_ok {t : Nat} {v : Value} {ty : FieldType} (h : am_vt t v = true) (h0 : t = 0 → ty = .int) (h1 : t = 1 → ty = .long) (h2 : t = 2 → (∃ n, ty = .object n) ∨ ∃ u, ty = .array u) (ad : Nat → Nat) : narrow ty (am_tv ad v) = am_tv ad v ∧ fits ty (am_tv ad v) = true := by
  unfold am_vt at h
  split at h
  · rw [h0 rfl]
    exact ⟨rfl, rfl⟩
  · rw [h1 rfl]
    exact ⟨rfl, rfl⟩
  · rcases h2 rfl with ⟨n, rfl⟩ | ⟨u, rfl⟩
    · exact ⟨rfl, rfl⟩
    · exact ⟨rfl, rfl⟩
  · cases h
/-- a row of longs into an array of such rows -/
theorem am_astA {cc : ByteArray} {ws : va_W} {rest : List Value} {a v n k2 : Nat} {f : Nat → Option Nat} {g : Nat → Int64} {i0 : Int32} (hx : p.tables.exec = Jvm.exec) (hb : c.code = cc) (hK : va_K D cl (am_tys cA EC) s) (hP : va_P D cl ws H) (hD : va_D A ws) (hS : va_S A s.heap H locs) {q0 qk : Nat}
    (hov : (Cond.arrayOver (.array .long)).before args s = true) (ha : ws[q0]? = some (a, .inl (cA 3, n, .inr (.inr (.inr (.inr f)))))) (hv : ws[qk]? = some (v, .inl (cA 1, k2, .inr (.inl g)))) (hin : vp_in i0 n) (hd : decode cc pc = .ok (.aastore, 1))
    (kk : ∀ (H1 : Heap) (locs1 : List Loc), va_P D cl (ws.set q0 (a, .inl (cA 3, n, .inr (.inr (.inr (.inr (va_up f i0.toNatClampNeg (some v)))))))) H1 → va_D A (ws.set q0 (a, .inl (cA 3, n, .inr (.inr (.inr (.inr (va_up f i0.toNatClampNeg (some v)))))))) → va_S A s.heap H1 locs1 → W p l e R s m args below meth c H1 locs1 cells slots Q (F0 m (pc + 1) lsC rest)) :
    W p l e R s m args below meth c H locs cells slots Q (F0 m pc lsC (.ref v :: .int i0 :: .ref a :: rest)) := by
  have hlt : i0.toNatClampNeg < n := Nat.not_le.mp fun q => hin (Or.inr q)
  have h0 : ¬ i0 < 0 := fun q => hin (Or.inl q)
  obtain ⟨comp, cA', kA, hcomp, -, hkA, hkindA, hnameA⟩ := arrayOverA_spec hov
  have e3 : s.vm.findClass ("[" ++ (FieldType.array .long).toString) = some (cA 3) := (hK.2 3 _ rfl).2
  cases hnameA.symm.trans e3
  have e1 : s.vm.findClass (FieldType.array .long).toString = some (cA 1) := (hK.2 1 _ rfl).2
  cases hcomp.symm.trans e1
  obtain ⟨-, k1, hk1, cm1, hkk1⟩ := (hK.2 1 _ rfl).1 k2 (fun j => .long (g j))
  have hcv : H[v]? = some (arrV (cA 1) k2 (fun j => .long (g j))) := hP qk _ hv
  refine W.aast hx hb (hP q0 _ ha) (fun q h => by cases h) (fun h => by cases h) hkA hkindA rfl hk1 ⟨h0, by show _ < (arrV _ _ _).slots.size; rw [arrV_size]; exact hlt⟩ hcv (fun q h => by cases h) hk1 (am_assign _ _) rfl rfl hd fun H1 e z oq => ?_
  refine kk H1 _ (hP.set hD ha ?_ oq) (hD.set ha) (hS.put z oq (hD.2 q0 _ ha))
  show H1[a]? = some (vp_cell _ _)
  rw [e]
  rw [vp_cell_q, vp_cell_q, arrV_store]
  congr 2
  funext q
  by_cases hq : q = i0.toNatClampNeg
  · subst hq
    simp [updV, va_up, va_rf]
  · simp [updV, va_up, hq]
set_option maxHeartbeats 4000000 in
theorem am_heap (hG : am_G P cl WS NW ST EC) (i : Instr) (hC : am_C P.2.2.2.2.2.2.2 X NW ST WS D cl cA EC xa A M p s m args meth c) (hJ : am_J D cl cA A s.heap ad H locs h) (hl : lv_has lsC M.2.2.1 (am_as ad 0 ls)) (hll : ls.length = M.2.2.1) (hd : decode M.2.1 pc = .ok (i, len)) (hlo : am_lo i len = true) (hpf : ∀ k ci i0 t : Nat, i = .putfield k → P.2.1 M.2.2.2.2.1 k = some (2, ci, i0, t) → M.1.name = "<init>")
    (hRf : d ≤ R.frames) (hRl : 40 * d ≤ R.locals) (hcR : cells + h1.length ≤ R.cells + h.length) (hsR : slots + am_sz h1 ≤ R.slots + am_sz h)
    (hex : am_exH P d M i pc ls st h = some (pc', ls', st', h1)) (hm : h.length ≤ h1.length ∧ am_sz h ≤ am_sz h1)
    (kH : ∀ (ad' : Nat → Nat) (H1 : Heap) (locs1 : List Loc) (cells1 slots1 : Nat), am_ag h.length ad ad' → (h1.length = h.length → ad' = ad) → am_J D cl cA A s.heap ad' H1 locs1 h1 → lv_has lsC M.2.2.1 (am_as ad' 0 ls') → ls'.length = M.2.2.1 → cells1 + h.length ≤ cells + h1.length → slots1 + am_sz h ≤ slots + am_sz h1 →
      W p l e R s m args below meth c H1 locs1 cells1 slots1 Q (F0 m pc' lsC (st'.map (am_tv ad')))) :
    W p l e R s m args below meth c H locs cells slots Q (F0 m pc lsC (st.map (am_tv ad))) := by
  obtain ⟨hx, hb, hml, hr, hts, hown, hlk, hnm, hK, hA, hE⟩ := hC
  obtain ⟨hP, hD, hS⟩ := hJ
  obtain ⟨-, hGF, hGC, hGN, hGY, -, hGS, -⟩ := hG
  -- a cell that was there gets new contents
  have setk : ∀ (k : Nat) (e0 : am_E) (H1 : Heap) (locs1 : List Loc), h1 = h.set k e0 → ls' = ls → va_P D cl ((am_tw ad cA h).set k (ad k, am_te ad cA e0)) H1 → va_D A ((am_tw ad cA h).set k (ad k, am_te ad cA e0)) → va_S A s.heap H1 locs1 → W p l e R s m args below meth c H1 locs1 cells slots Q (F0 m pc' lsC (st'.map (am_tv ad))) := by
    intro k e0 H1 locs1 e1 e2 g1 g2 g3
    rw [← am_tw_set, ← e1] at g1 g2
    exact kH ad H1 locs1 cells slots (am_ag.rf _ _) (fun _ => rfl) ⟨g1, g2, g3⟩ (by rw [e2]; exact hl) (by rw [e2]; exact hll) (by omega) (by omega)
  -- a new cell
  have newk : ∀ (r : List Value) (e0 : am_E) (q : Nat) (E : va_E) (H1 : Heap), am_chk ls r h = true → h1 = h ++ [e0] → ls' = ls → st' = .ref h.length :: r → (∀ ad' : Nat → Nat, am_te ad' cA e0 = E) → va_P D cl (am_tw ad cA h ++ [(q, E)]) H1 → va_D A (am_tw ad cA h ++ [(q, E)]) → va_S A s.heap H1 locs → W p l e R s m args below meth c H1 locs (cells + 1) (slots + am_se e0) Q (F0 m pc' lsC (.ref q :: r.map (am_tv ad))) := by
    intro r e0 q E H1 hchk e1 e2 e3 hE0 g1 g2 g3
    obtain ⟨g4, g5⟩ := am_grow (e := e0) (E := E) hchk (hE0 _) g1 g2
    have hchk' := hchk
    simp only [am_chk, Bool.and_eq_true, decide_eq_true_eq] at hchk'
    obtain ⟨⟨⟨hc1, hc2⟩, -⟩, hn⟩ := hchk'
    have hag := am_ag.up ad q hn
    have hlen : h1.length = h.length + 1 := by rw [e1]; simp
    have hsz : am_sz h1 = am_sz h + am_se e0 := by rw [e1, am_sz_app]; simp [am_sz]
    have := kH (va_up ad h.length q) H1 locs (cells + 1) (slots + am_se e0) hag (fun z => by omega) (by rw [e1]; exact ⟨g4, g5, g3⟩) (by rw [e2, am_co_as hag _ _ hc1]; exact hl) (by rw [e2]; exact hll) (by omega) (by omega)
    rw [e3, List.map_cons, am_cs_map hag hc2] at this
    have e4 : am_tv (va_up ad h.length q) (.ref h.length) = .ref q := by
      show Value.ref (va_up ad h.length q h.length) = .ref q
      rw [va_up_self]
    rw [e4] at this
    exact this
  cases i
  case putfield k =>
    simp only [am_lo, beq_iff_eq] at hlo
    subst hlo
    simp only [am_exH, am_put] at hex
    split at hex
    next v a r =>
      split at hex
      next kd ci i0 t hF =>
        split at hex
        next cj fs hh =>
          split at hex
          next hcnd =>
            obtain ⟨rfl, hi0, hvt, hkd⟩ := hcnd
            cases hex
            obtain ⟨C, T, N, ty, hc, hi, hk4, h02, h13, hnf, hfn, hpd, ht0, ht1, ht2⟩ := hGF _ _ _ _ _ _ hF
            obtain ⟨hws, ⟨ty0, hty0⟩, hnms⟩ := hGC _ _ _ _ hc
            obtain ⟨hn1, hn2⟩ := am_vt_ok hvt ht0 ht1 ht2 ad
            have he : (am_tw ad cA h)[a]? = some (ad a, .inr (cj, fs.map (am_tv ad))) := am_tw_get hh
            have hte : am_te ad cA (.inr (cj, fs.set i0 v)) = .inr (cj, (fs.map (am_tv ad)).set i0 (am_tv ad v)) := by simp only [am_te, List.map_set]
            have fin : ∀ (H1 : Heap) (locs1 : List Loc), va_P D cl ((am_tw ad cA h).set a (ad a, .inr (cj, (fs.map (am_tv ad)).set i0 (am_tv ad v)))) H1 → va_D A ((am_tw ad cA h).set a (ad a, .inr (cj, (fs.map (am_tv ad)).set i0 (am_tv ad v)))) → va_S A s.heap H1 locs1 → W p l e R s m args below meth c H1 locs1 cells slots Q (F0 m (pc + 3) lsC (st'.map (am_tv ad))) := fun H1 locs1 g1 g2 g3 => setk a _ H1 locs1 rfl rfl (by rw [hte]; exact g1) (by rw [hte]; exact g2) g3
            have hkd3 : kd = 0 ∨ kd = 1 ∨ kd = 2 := by omega
            rcases hkd3 with hkd | hkd | hkd
            · exact va_put (D := D) (ci := cj) (v := am_tv ad v) (ty := ty) hx hb hts hws ty0 hty0 hnms hown hK hP hD hS a he hc i0 hi (hts _ (h02 (Or.inl hkd))) (fun _ z => z) (hnf (Or.inl hkd)) hpd hn1 hn2 (by rw [List.length_map]; exact hi0) hd fin
            · obtain ⟨host, hho⟩ := h13 (Or.inl hkd)
              exact va_putN (D := D) (ci := cj) (v := am_tv ad v) (ty := ty) (host := host) hx hb hts hws ty0 hty0 hnms hown hK hP hD hS a he hc i0 hi (va_Nw.use rfl (hE.2.2.1 _ hho)) (fun _ z => z) (hnf (Or.inr hkd)) hpd hn1 hn2 (by rw [List.length_map]; exact hi0) hd fin
            · exact va_putF (D := D) (ci := cj) (v := am_tv ad v) (ty := ty) hx hb hts hws ty0 hty0 hnms hown hK hP hD hS a he hc i0 hi (hts _ (h02 (Or.inr hkd))) (fun _ z => z) (hfn hkd).1 (hnm (hpf _ _ _ _ rfl (hkd ▸ hF))) (hfn hkd).2 hpd hn1 hn2 (by rw [List.length_map]; exact hi0) hd fin
          next => cases hex
        next => cases hex
      next => cases hex
    next => cases hex
  case iastore =>
    simp only [am_lo, beq_iff_eq] at hlo
    subst hlo
    simp only [am_exH, am_iast] at hex
    split at hex
    next x i0 a r =>
      split at hex
      next t n f hh =>
        split at hex
        next hin =>
          obtain ⟨rfl, hin⟩ := hin
          cases hex
          have he : (am_tw ad cA h)[a]? = some (ad a, .inl (cA 0, n, .inl f)) := am_tw_get hh
          exact va_iast hx hb hK hP hD hS a 0 he rfl (am_ix_in hin) hd (fun H1 locs1 g1 g2 g3 => setk a _ H1 locs1 rfl rfl g1 g2 g3)
        next => cases hex
      next => cases hex
    next => cases hex
  case bastore =>
    simp only [am_lo, beq_iff_eq] at hlo
    subst hlo
    simp only [am_exH, am_zast] at hex
    split at hex
    next x i0 a r =>
      split at hex
      next t n f hh =>
        split at hex
        next hin =>
          obtain ⟨rfl, hin⟩ := hin
          cases hex
          have he : (am_tw ad cA h)[a]? = some (ad a, .inl (cA 2, n, .inl f)) := am_tw_get hh
          exact va_zast hx hb hK hP hD hS a 2 he rfl (am_ix_in hin) hd (fun H1 locs1 g1 g2 g3 => setk a _ H1 locs1 rfl rfl g1 g2 g3)
        next => cases hex
      next => cases hex
    next => cases hex
  case lastore =>
    simp only [am_lo, beq_iff_eq] at hlo
    subst hlo
    simp only [am_exH, am_last] at hex
    split at hex
    next x i0 a r =>
      split at hex
      next t n f hh =>
        split at hex
        next hin =>
          obtain ⟨rfl, hin⟩ := hin
          cases hex
          have he : (am_tw ad cA h)[a]? = some (ad a, .inl (cA 1, n, .inr (.inl f))) := am_tw_get hh
          exact va_last hx hb hK hP hD hS a 1 he rfl (am_ix_in hin) hd (fun H1 locs1 g1 g2 g3 => setk a _ H1 locs1 rfl rfl g1 g2 g3)
        next => cases hex
      next => cases hex
    next => cases hex
  case aastore =>
    simp only [am_lo, beq_iff_eq] at hlo
    subst hlo
    simp only [am_exH, am_aast] at hex
    split at hex
    next v i0 a r =>
      split at hex
      next t n f hh =>
        have hup : ∀ t0 : Nat, am_te ad cA (.inl (t0, n, .inr (.inr (.inr (.inr (va_up f i0.toNatClampNeg (some v))))))) = .inl (cA t0, n, .inr (.inr (.inr (.inr (va_up (fun j => (f j).map ad) i0.toNatClampNeg (some (ad v))))))) := by
          intro t0
          have e0 : (fun j => Option.map ad (va_up f i0.toNatClampNeg (some v) j)) = va_up (fun j => (f j).map ad) i0.toNatClampNeg (some (ad v)) := by
            funext j
            by_cases hj : j = i0.toNatClampNeg
            · subst hj
              rw [va_up_self, va_up_self]
              rfl
            · rw [va_up_ne _ _ hj, va_up_ne _ _ hj]
          simp only [am_te, am_tc, e0]
        split at hex
        next ci fs hv =>
          split at hex
          next hin =>
            obtain ⟨rfl, rfl, hin⟩ := hin
            cases hex
            obtain ⟨⟨T, N, hec⟩, -⟩ := hGN
            have he : (am_tw ad cA h)[a]? = some (ad a, .inl (cA 4, n, .inr (.inr (.inr (.inr (fun j => (f j).map ad)))))) := am_tw_get hh
            have he2 : (am_tw ad cA h)[v]? = some (ad v, .inr (P.2.2.2.2.2.2.1, fs.map (am_tv ad))) := am_tw_get hv
            exact va_astq hx hb hK hP hD hS a 4 v P.2.2.2.2.2.2.1 (r := (EC, T, N)) he rfl he2 hec (am_ix_in hin) hd (fun H1 locs1 g1 g2 g3 => setk a _ H1 locs1 rfl rfl (by rw [hup]; exact g1) (by rw [hup]; exact g2) g3)
          next => cases hex
        next u k2 g hv =>
          split at hex
          next hin =>
            obtain ⟨rfl, rfl, hin⟩ := hin
            cases hex
            have he : (am_tw ad cA h)[a]? = some (ad a, .inl (cA 3, n, .inr (.inr (.inr (.inr (fun j => (f j).map ad)))))) := am_tw_get hh
            have he2 : (am_tw ad cA h)[v]? = some (ad v, .inl (cA 1, k2, .inr (.inl g))) := am_tw_get hv
            exact am_astA hx hb hK hP hD hS hE.2.2.2.2 he he2 (am_ix_in hin) hd (fun H1 locs1 g1 g2 g3 => setk a _ H1 locs1 rfl rfl (by rw [hup]; exact g1) (by rw [hup]; exact g2) g3)
          next => cases hex
        next => cases hex
      next => cases hex
    next => cases hex
  case newarray ty =>
    simp only [am_lo, beq_iff_eq] at hlo
    subst hlo
    simp only [am_exH, am_newa] at hex
    split at hex
    next n r =>
      split at hex
      next hin =>
        obtain ⟨hn0, hnN, hchk⟩ := hin
        have hcs : ∀ e0 : am_E, h1 = h ++ [e0] → cells + 1 ≤ R.cells ∧ slots + am_se e0 ≤ R.slots := by
          intro e0 e1
          have hlen : h1.length = h.length + 1 := by rw [e1]; simp
          have hsz : am_sz h1 = am_sz h + am_se e0 := by rw [e1, am_sz_app]; simp [am_sz]
          omega
        cases ty
        case int =>
          cases hex
          obtain ⟨q1, q2⟩ := hcs _ rfl
          refine va_newa (atype := .int) (ty := .int) (N' := n.toNatClampNeg) (a0 := (n.toNatClampNeg, .inl (fun _ => 0))) hx hb (hts _ hGS.2.2.2.1) rfl hK hP hD hS hA (fun _ => rfl) hn0 rfl (Nat.le_trans (Nat.mul_le_mul_right _ hnN) (by decide)) q1 q2 hd (fun q cA' H1 hK' g1 g2 g3 => ?_)
          have e1 : s.vm.findClass ("[" ++ (FieldType.int).toString) = some cA' := (hK'.2 5 _ rfl).2
          have e2 : s.vm.findClass ("[" ++ (FieldType.int).toString) = some (cA 0) := (hK.2 0 _ rfl).2
          cases e1.symm.trans e2
          exact newk r _ q _ H1 hchk rfl rfl rfl (fun _ => rfl) g1 g2 g3
        case long =>
          cases hex
          obtain ⟨q1, q2⟩ := hcs _ rfl
          refine va_newa (atype := .long) (ty := .long) (N' := n.toNatClampNeg) (a0 := (n.toNatClampNeg, .inr (.inl (fun _ => 0)))) hx hb (hts _ hGS.2.2.2.2.1) rfl hK hP hD hS hA (fun _ => rfl) hn0 rfl (Nat.le_trans (Nat.mul_le_mul_right _ hnN) (by decide)) q1 q2 hd (fun q cA' H1 hK' g1 g2 g3 => ?_)
          have e1 : s.vm.findClass ("[" ++ (FieldType.long).toString) = some cA' := (hK'.2 5 _ rfl).2
          have e2 : s.vm.findClass ("[" ++ (FieldType.long).toString) = some (cA 1) := (hK.2 1 _ rfl).2
          cases e1.symm.trans e2
          exact newk r _ q _ H1 hchk rfl rfl rfl (fun _ => rfl) g1 g2 g3
        case boolean =>
          cases hex
          obtain ⟨q1, q2⟩ := hcs _ rfl
          refine va_newa (atype := .boolean) (ty := .boolean) (N' := n.toNatClampNeg) (a0 := (n.toNatClampNeg, .inl (fun _ => 0))) hx hb (hts _ hGS.2.2.2.2.2) rfl hK hP hD hS hA (fun _ => rfl) hn0 rfl (Nat.le_trans (Nat.mul_le_mul_right _ hnN) (by decide)) q1 q2 hd (fun q cA' H1 hK' g1 g2 g3 => ?_)
          have e1 : s.vm.findClass ("[" ++ (FieldType.boolean).toString) = some cA' := (hK'.2 5 _ rfl).2
          have e2 : s.vm.findClass ("[" ++ (FieldType.boolean).toString) = some (cA 2) := (hK.2 2 _ rfl).2
          cases e1.symm.trans e2
          exact newk r _ q _ H1 hchk rfl rfl rfl (fun _ => rfl) g1 g2 g3
        all_goals cases hex
      next => cases hex
    next => cases hex
  case anewarray k =>
    simp only [am_lo, beq_iff_eq] at hlo
    subst hlo
    simp only [am_exH, am_newq] at hex
    split at hex
    next ci fs hN =>
      split at hex
      next hci =>
        split at hex
        next n r =>
          split at hex
          next hin =>
            obtain ⟨hn0, hnN, hchk⟩ := hin
            cases hex
            obtain ⟨⟨T0, N0, hec⟩, hnew⟩ := hGN
            obtain ⟨C, T, N, ty, hc, hlink, -⟩ := hnew _ _ _ _ hN
            rw [hci, hec] at hc
            cases hc
            have hlen : (h ++ [(.inl (4, n.toNatClampNeg, .inr (.inr (.inr (.inr (fun _ => none))))) : am_E)]).length = h.length + 1 := by simp
            have hsz : am_sz (h ++ [(.inl (4, n.toNatClampNeg, .inr (.inr (.inr (.inr (fun _ => none))))) : am_E)]) = am_sz h + n.toNatClampNeg := by rw [am_sz_app]; simp [am_sz, am_se]
            refine va_newq (C := EC) (N' := n.toNatClampNeg) hx hb hown (hts _ hlink) hE.2.2.2.1 hK hP hD hS hA hn0 rfl (Nat.le_trans (Nat.mul_le_mul_right _ hnN) (by decide)) (by omega) (by omega) hd (fun q cA' H1 hK' g1 g2 g3 => ?_)
            obtain ⟨kA, comp, -, -, -, e1⟩ := (hK'.2 5 _ rfl).2
            obtain ⟨kA2, comp2, -, -, -, e2⟩ := (hK.2 4 _ rfl).2
            cases e1.symm.trans e2
            exact newk r _ q _ H1 hchk rfl rfl rfl (fun _ => rfl) g1 g2 g3
          next => cases hex
        next => cases hex
      next => cases hex
    next => cases hex
  case new k =>
    simp only [am_lo, beq_iff_eq] at hlo
    subst hlo
    simp only [am_exH, am_new] at hex
    split at hex
    next ci fs hN =>
      split at hex
      next hchk =>
        cases hex
        obtain ⟨-, hnew⟩ := hGN
        obtain ⟨C, T, N, ty, hc, hlink, hinst, hini, hfl, hty, hdf, hmap⟩ := hnew _ _ _ _ hN
        have hlen : (h ++ [(.inr (ci, fs) : am_E)]).length = h.length + 1 := by simp
        have hsz : am_sz (h ++ [(.inr (ci, fs) : am_E)]) = am_sz h + fs.length := by rw [am_sz_app]; simp [am_sz, am_se]
        refine va_new (ci := ci) (fs := fs) (C := C) (T := T) (N := N) hx hb hts (hGC _ _ _ _ hc).1 ty hty hown (hts _ hlink) (hts _ hinst) (hts _ hini) hK hP hD hS hA hc hdf (by omega) (by omega) hd (fun q H1 g1 g2 g3 => ?_)
        have := newk st (.inr (ci, fs)) q (.inr (ci, fs)) H1 hchk rfl rfl rfl (fun ad' => by simp only [am_te]; rw [hmap]) g1 g2 g3
        have e1 : am_se (.inr (ci, fs)) = N := hfl
        rw [e1] at this
        exact this
      next => cases hex
    next => cases hex
  case invokestatic k =>
    simp only [am_lo, beq_iff_eq] at hlo
    subst hlo
    simp only [am_exH, am_cpy] at hex
    split at hex
    next j na ci hy =>
      split at hex
      next n dp b sp a r =>
        split at hex
        next n0 f ha =>
          split at hex
          next n1 g hb0 =>
            split at hex
            next hin =>
              obtain ⟨hd0, hw8, k1, k2, k3, k4, k5⟩ := hin
              cases hex
              obtain ⟨-, -, -, h7⟩ := hGY _ _ _ _ _ _ hy
              obtain ⟨q1, q2, q3, q4⟩ := h7 rfl
              have he0 : (am_tw ad cA h)[a]? = some (ad a, .inl (cA 1, n0, .inr (.inl f))) := am_tw_get ha
              have he1 : (am_tw ad cA h)[b]? = some (ad b, .inl (cA 1, n1, .inr (.inl g))) := am_tw_get hb0
              have hnf : nativeFrameWords "java/lang/System" "arraycopy" 5 ≤ 20 := by decide
              exact va_copyl hx hb (by rw [hml, hl.1]) hown (hts _ q1) (hts _ q2) (hts _ q3) (hts _ q4) hK hP hD hS a b 1 1 (ty := .long) he0 he1 rfl rfl rfl k1 k2 k3 k4 k5 (fun _ _ => rfl) (by omega) (by rw [am_w_map]; omega) hd (fun H1 locs1 g1 g2 g3 => setk b _ H1 locs1 rfl rfl g1 g2 g3)
            next => cases hex
          next => cases hex
        next => cases hex
      next => cases hex
    next => cases hex
  case multianewarray k n0 =>
    simp only [am_lo, beq_iff_eq] at hlo
    subst hlo
    by_cases hn2 : n0 = 2
    · subst hn2
      simp only [am_exH, am_newm] at hex
      split at hex
      next h77 =>
        split at hex
        next k2 n r =>
          split at hex
          next hin =>
            obtain ⟨hn0, hnN, hk0, hkK, hchk⟩ := hin
            cases hex
            have hlen : (h ++ (.inl (3, n.toNatClampNeg, .inr (.inr (.inr (.inr (fun i => if i < n.toNatClampNeg then some (h.length + 1 + i) else none))))) : am_E) :: List.replicate n.toNatClampNeg (.inl (1, k2.toNatClampNeg, .inr (.inl (fun _ => 0))))).length = h.length + (1 + n.toNatClampNeg) := by simp; omega
            have hsz : am_sz (h ++ (.inl (3, n.toNatClampNeg, .inr (.inr (.inr (.inr (fun i => if i < n.toNatClampNeg then some (h.length + 1 + i) else none))))) : am_E) :: List.replicate n.toNatClampNeg (.inl (1, k2.toNatClampNeg, .inr (.inl (fun _ => 0))))) = am_sz h + (n.toNatClampNeg + n.toNatClampNeg * k2.toNatClampNeg) := by
              rw [am_sz_app]
              simp [am_sz, am_se]
            have hcy : s.vm.findClass (FieldType.array .long).toString = some (cA 1) := (hK.2 1 _ rfl).2
            have hlink : Cond.classLink (P.2.2.2.2.2.2.2 M.2.2.2.2.1) k ("[" ++ (FieldType.array .long).toString) ∈ WS := hGS.2.1 _ _ h77
            refine va_mna (X := am_tw ad cA h) (L := []) (f := fun _ => .inr (0, [])) (ty := .long) (cy := cA 1) (N' := n.toNatClampNeg) (K' := k2.toNatClampNeg) (z := (k2.toNatClampNeg, .inr (.inl (fun _ => 0)))) hx hb hown (hts _ hlink) hE.2.2.2.2 (hts _ hGS.2.2.2.2.1) hcy hK (by rw [show va_pl [] (fun _ => (.inr (0, []) : va_E)) = [] from rfl, List.append_nil]; exact hP) (by rw [show va_pl [] (fun _ => (.inr (0, []) : va_E)) = [] from rfl, List.append_nil]; exact hD) hS hA hn0 hk0 rfl rfl (Nat.le_trans (Nat.mul_le_mul_right _ hnN) (by decide)) (Nat.le_trans (Nat.mul_le_mul_right _ hkK) (by decide)) (Nat.le_trans hkK (by decide)) rfl rfl (by omega) (by omega) (fun c => am_innerC c _) hd (fun q rr cA' H1 _ _ hK' g1 g2 g3 => ?_)
            have e1 : s.vm.findClass ("[" ++ (FieldType.array .long).toString) = some cA' := (hK'.2 5 _ rfl).2
            have e2 : s.vm.findClass ("[" ++ (FieldType.array .long).toString) = some (cA 3) := (hK.2 3 _ rfl).2
            cases e1.symm.trans e2
            have e3 : va_pl ([] ++ (List.range n.toNatClampNeg).map rr) (vr_up (fun _ => (.inr (0, []) : va_E)) ((List.range n.toNatClampNeg).map rr) (.inl (cA 1, (k2.toNatClampNeg, .inr (.inl (fun _ => 0)))))) = (List.range n.toNatClampNeg).map (fun i => (rr i, .inl (cA 1, k2.toNatClampNeg, .inr (.inl (fun _ => 0))))) := by
              unfold va_pl
              rw [List.nil_append, List.map_map]
              apply List.map_congr_left
              intro i hi
              show (rr i, _) = _
              rw [vr_up_in (List.mem_map.mpr ⟨i, hi, rfl⟩)]
            rw [e3] at g1 g2
            obtain ⟨g4, g5⟩ := am_growM hchk hnN g1 g2
            have hchk' := hchk
            simp only [am_chk, Bool.and_eq_true, decide_eq_true_eq] at hchk'
            obtain ⟨⟨⟨hc1, hc2⟩, -⟩, hn⟩ := hchk'
            have hag := am_adM_ag ad h.length n.toNatClampNeg q rr hn hnN
            have := kH (am_adM ad h.length n.toNatClampNeg q rr) H1 locs (cells + 1 + n.toNatClampNeg) (slots + n.toNatClampNeg + n.toNatClampNeg * k2.toNatClampNeg) hag (fun z => by omega) ⟨g4, g5, g3⟩ (by rw [am_co_as hag _ _ hc1]; exact hl) hll (by omega) (by omega)
            rw [List.map_cons, am_cs_map hag hc2] at this
            have e4 : am_tv (am_adM ad h.length n.toNatClampNeg q rr) (.ref h.length) = .ref q := by
              show Value.ref (am_adM ad h.length n.toNatClampNeg q rr h.length) = .ref q
              rw [am_adM_n]
            rw [e4] at this
            exact this
          next => cases hex
        next => cases hex
      next => cases hex
    · have hno : am_exH P d M (.multianewarray k n0) pc ls st h = none := by
        unfold am_exH
        split <;> first | rfl | (next hq => cases hq; exact absurd rfl hn2) | (next hq => cases hq)
      rw [hno] at hex
      cases hex
  all_goals cases hex
end AMQ
