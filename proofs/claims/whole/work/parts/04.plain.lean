/-! Instructions that change no cell -/
section AMP
variable {P : am_P} {X : am_X} {cl : List vw_C} {WS NW : List Cond} {ST : Nat → String × String × String} {EC : String} {D : va_G} {cA : Nat → ClassId} {l : Launch} {d : Nat} {M : am_M} {pc pc' len : Nat} {ls ls' : am_L} {st st' : List Value} {h : am_H}
variable {p : Program} {e : Env} {R : Room} {s : State} {m : MethodId} {args : Array Value} {below : List Frame} {meth : Method} {c : Code} {H : Heap} {locs : List Loc} {cells slots : Nat} {A : Nat → Prop} {ad xa : Nat → Nat} {lsC : Array Slot} {Q : State → Prop}
set_option maxHeartbeats 4000000 in
theorem am_plain (hG : am_G P cl WS NW ST EC) (i : Instr) (hC : am_C P.2.2.2.2.2.2.2 X NW ST WS D cl cA EC xa A M p s m args meth c) (hxa : ∀ k, k < 3 → xa k = ad (am_x0 + k)) (hJ : am_J D cl cA A s.heap ad H locs h) (hl : lv_has lsC M.2.2.1 (am_as ad 0 ls)) (hll : ls.length = M.2.2.1) (hd : decode M.2.1 pc = .ok (i, len)) (hlo : am_lo i len = true)
    (hRf : d ≤ R.frames) (hRl : 40 * d ≤ R.locals) (hcR : cells ≤ R.cells) (hsR : slots ≤ R.slots)
    (hex : am_exP P X d M i pc ls st h = some (pc', ls', st'))
    (kN : ∀ lsC' : Array Slot, lv_has lsC' M.2.2.1 (am_as ad 0 ls') → ls'.length = M.2.2.1 → W p l e R s m args below meth c H locs cells slots Q (F0 m pc' lsC' (st'.map (am_tv ad)))) :
    W p l e R s m args below meth c H locs cells slots Q (F0 m pc lsC (st.map (am_tv ad))) := by
  obtain ⟨hx, hb, hml, hr, hts, hown, hlk, hnm, hK, hA, hE⟩ := hC
  obtain ⟨hP, hD, hS⟩ := hJ
  obtain ⟨-, hGF, hGC, hGN, hGY, -, hGS, -⟩ := hG
  cases i
  case iconst n =>
    simp only [am_lo, beq_iff_eq] at hlo
    subst hlo
    cases hex
    exact lv_iconst hx hb hd rfl (kN lsC hl hll)
  case bipush n =>
    simp only [am_lo, beq_iff_eq] at hlo
    subst hlo
    cases hex
    exact lv_bipush hx hb hd rfl (kN lsC hl hll)
  case sipush n =>
    simp only [am_lo, beq_iff_eq] at hlo
    subst hlo
    cases hex
    exact lv_sipush hx hb hd rfl (kN lsC hl hll)
  case lconst n =>
    simp only [am_lo, beq_iff_eq] at hlo
    subst hlo
    cases hex
    exact lv_lconst hx hb hd rfl (kN lsC hl hll)
  case ldc2_w k =>
    simp only [am_lo, beq_iff_eq] at hlo
    subst hlo
    simp only [am_exP] at hex
    split at hex
    next v hv =>
      cases hex
      exact lv_ldc2 hx hb hown (hts _ (hGS.2.2.1 _ _ _ hv)) hd (kN lsC hl hll)
    next => cases hex
  case iload k =>
    simp only [am_lo, beq_iff_eq] at hlo
    subst hlo
    obtain ⟨x, h1, rfl, rfl, rfl⟩ := am_li_sp hex
    exact lv_iload hx hb hd (am_has_at hl h1) (kN lsC hl hll)
  case iload_n k =>
    simp only [am_lo, beq_iff_eq] at hlo
    subst hlo
    obtain ⟨x, h1, rfl, rfl, rfl⟩ := am_li_sp hex
    exact lv_iload_n hx hb hd rfl (am_has_at hl h1) (kN lsC hl hll)
  case lload k =>
    simp only [am_lo, beq_iff_eq] at hlo
    subst hlo
    obtain ⟨x, h1, rfl, rfl, rfl⟩ := am_ll_sp hex
    exact lv_lload hx hb hd (am_has_at hl h1) (kN lsC hl hll)
  case lload_n k =>
    simp only [am_lo, beq_iff_eq] at hlo
    subst hlo
    obtain ⟨x, h1, rfl, rfl, rfl⟩ := am_ll_sp hex
    exact lv_lload_n hx hb hd rfl (am_has_at hl h1) (kN lsC hl hll)
  case aload k =>
    simp only [am_lo, beq_iff_eq] at hlo
    subst hlo
    obtain ⟨x, h1, rfl, rfl, rfl⟩ := am_la_sp hex
    exact lv_aload hx hb hd (am_has_at hl h1) (kN lsC hl hll)
  case aload_n k =>
    simp only [am_lo, beq_iff_eq] at hlo
    subst hlo
    obtain ⟨x, h1, rfl, rfl, rfl⟩ := am_la_sp hex
    exact lv_aload_n hx hb hd rfl (am_has_at hl h1) (kN lsC hl hll)
  case istore k =>
    simp only [am_lo, beq_iff_eq] at hlo
    subst hlo
    obtain ⟨x, r, rfl, h1, rfl, rfl, rfl⟩ := am_si_sp hex
    exact lv_istore hx hb hd hl (by omega) rfl (fun ls2 h2 => kN ls2 (am_store1 (v := .int x) h2 rfl) (by rw [am_st_len]; exact hll))
  case istore_n k =>
    simp only [am_lo, beq_iff_eq] at hlo
    subst hlo
    obtain ⟨x, r, rfl, h1, rfl, rfl, rfl⟩ := am_si_sp hex
    exact lv_istore_n hx hb hd rfl hl (by omega) rfl (fun ls2 h2 => kN ls2 (am_store1 (v := .int x) h2 rfl) (by rw [am_st_len]; exact hll))
  case lstore k =>
    simp only [am_lo, beq_iff_eq] at hlo
    subst hlo
    obtain ⟨x, r, rfl, h1, rfl, rfl, rfl⟩ := am_sl_sp hex
    exact lv_lstore hx hb hd hl (by omega) rfl (fun ls2 h2 => kN ls2 (am_store2 (v := .long x) h2 rfl) (by rw [am_st_len]; exact hll))
  case lstore_n k =>
    simp only [am_lo, beq_iff_eq] at hlo
    subst hlo
    obtain ⟨x, r, rfl, h1, rfl, rfl, rfl⟩ := am_sl_sp hex
    exact lv_lstore_n hx hb hd rfl hl (by omega) rfl (fun ls2 h2 => kN ls2 (am_store2 (v := .long x) h2 rfl) (by rw [am_st_len]; exact hll))
  case astore k =>
    simp only [am_lo, beq_iff_eq] at hlo
    subst hlo
    obtain ⟨x, r, rfl, h1, rfl, rfl, rfl⟩ := am_sa_sp hex
    exact lv_astore hx hb hd hl (by omega) rfl (fun ls2 h2 => kN ls2 (am_store1 (v := .ref x) h2 rfl) (by rw [am_st_len]; exact hll))
  case astore_n k =>
    simp only [am_lo, beq_iff_eq] at hlo
    subst hlo
    obtain ⟨x, r, rfl, h1, rfl, rfl, rfl⟩ := am_sa_sp hex
    exact lv_astore_n hx hb hd rfl hl (by omega) rfl (fun ls2 h2 => kN ls2 (am_store1 (v := .ref x) h2 rfl) (by rw [am_st_len]; exact hll))
  case iinc k n =>
    simp only [am_lo, beq_iff_eq] at hlo
    subst hlo
    simp only [am_exP] at hex
    split at hex
    next x hx1 =>
      split at hex
      next hk =>
        cases hex
        obtain ⟨i0, hi0⟩ := am_has_k (ad := ad) hx1
        exact lv_iinc hx hb hd hl hi0 rfl (by omega) rfl (fun ls2 h2 => kN ls2 (am_store1 (v := .int (x + Int32.ofInt n)) h2 rfl) (by rw [am_st_len]; exact hll))
      next => cases hex
    next => cases hex
  case iadd =>
    simp only [am_lo, beq_iff_eq] at hlo
    subst hlo
    obtain ⟨x, y, z, r, rfl, hz, rfl, rfl, rfl⟩ := am_i2_sp (f := fun x y => some (x + y)) hex
    cases hz
    exact lv_iadd hx hb hd (kN lsC hl hll)
  case isub =>
    simp only [am_lo, beq_iff_eq] at hlo
    subst hlo
    obtain ⟨x, y, z, r, rfl, hz, rfl, rfl, rfl⟩ := am_i2_sp (f := fun x y => some (x - y)) hex
    cases hz
    exact lv_isub hx hb hd (kN lsC hl hll)
  case imul =>
    simp only [am_lo, beq_iff_eq] at hlo
    subst hlo
    obtain ⟨x, y, z, r, rfl, hz, rfl, rfl, rfl⟩ := am_i2_sp (f := fun x y => some (x * y)) hex
    cases hz
    exact lv_imul hx hb hd (kN lsC hl hll)
  case iand =>
    simp only [am_lo, beq_iff_eq] at hlo
    subst hlo
    obtain ⟨x, y, z, r, rfl, hz, rfl, rfl, rfl⟩ := am_i2_sp (f := fun x y => some (x &&& y)) hex
    cases hz
    exact lv_iand hx hb hd (kN lsC hl hll)
  case idiv =>
    simp only [am_lo, beq_iff_eq] at hlo
    subst hlo
    obtain ⟨x, y, z, r, rfl, hz, rfl, rfl, rfl⟩ := am_i2_sp hex
    by_cases hy : y = 0
    · rw [if_pos hy] at hz
      cases hz
    · rw [if_neg hy] at hz
      cases hz
      exact lv_idiv hx hb hd hy (kN lsC hl hll)
  case irem =>
    simp only [am_lo, beq_iff_eq] at hlo
    subst hlo
    obtain ⟨x, y, z, r, rfl, hz, rfl, rfl, rfl⟩ := am_i2_sp hex
    by_cases hy : y = 0
    · rw [if_pos hy] at hz
      cases hz
    · rw [if_neg hy] at hz
      cases hz
      exact lv_irem hx hb hd hy (kN lsC hl hll)
  case ladd =>
    simp only [am_lo, beq_iff_eq] at hlo
    subst hlo
    obtain ⟨x, y, z, r, rfl, hz, rfl, rfl, rfl⟩ := am_l2_sp (f := fun x y => some (x + y)) hex
    cases hz
    exact lv_ladd hx hb hd (kN lsC hl hll)
  case lsub =>
    simp only [am_lo, beq_iff_eq] at hlo
    subst hlo
    obtain ⟨x, y, z, r, rfl, hz, rfl, rfl, rfl⟩ := am_l2_sp (f := fun x y => some (x - y)) hex
    cases hz
    exact lv_lsub hx hb hd (kN lsC hl hll)
  case lmul =>
    simp only [am_lo, beq_iff_eq] at hlo
    subst hlo
    obtain ⟨x, y, z, r, rfl, hz, rfl, rfl, rfl⟩ := am_l2_sp (f := fun x y => some (x * y)) hex
    cases hz
    exact lv_lmul hx hb hd (kN lsC hl hll)
  case land =>
    simp only [am_lo, beq_iff_eq] at hlo
    subst hlo
    obtain ⟨x, y, z, r, rfl, hz, rfl, rfl, rfl⟩ := am_l2_sp (f := fun x y => some (x &&& y)) hex
    cases hz
    exact lv_land hx hb hd (kN lsC hl hll)
  case lrem =>
    simp only [am_lo, beq_iff_eq] at hlo
    subst hlo
    obtain ⟨x, y, z, r, rfl, hz, rfl, rfl, rfl⟩ := am_l2_sp hex
    by_cases hy : y = 0
    · rw [if_pos hy] at hz
      cases hz
    · rw [if_neg hy] at hz
      cases hz
      exact lv_lrem hx hb hd hy (kN lsC hl hll)
  case ineg =>
    simp only [am_lo, beq_iff_eq] at hlo
    subst hlo
    simp only [am_exP] at hex
    split at hex
    next x r =>
      cases hex
      exact lv_ineg hx hb hd (kN lsC hl hll)
    next => cases hex
  case i2l =>
    simp only [am_lo, beq_iff_eq] at hlo
    subst hlo
    simp only [am_exP] at hex
    split at hex
    next x r =>
      cases hex
      exact lv_i2l hx hb hd rfl (kN lsC hl hll)
    next => cases hex
  case l2i =>
    simp only [am_lo, beq_iff_eq] at hlo
    subst hlo
    simp only [am_exP] at hex
    split at hex
    next x r =>
      cases hex
      exact lv_l2i hx hb hd rfl (kN lsC hl hll)
    next => cases hex
  case lshr =>
    simp only [am_lo, beq_iff_eq] at hlo
    subst hlo
    simp only [am_exP] at hex
    split at hex
    next y x r =>
      cases hex
      exact lv_lshr hx hb hd rfl (kN lsC hl hll)
    next => cases hex
  case lcmp =>
    simp only [am_lo, beq_iff_eq] at hlo
    subst hlo
    simp only [am_exP] at hex
    split at hex
    next y x r =>
      cases hex
      exact W.lcmp hx hb hd (kN lsC hl hll)
    next => cases hex
  case dup =>
    simp only [am_lo, beq_iff_eq] at hlo
    subst hlo
    simp only [am_exP] at hex
    split at hex
    next v r =>
      split at hex
      next hv =>
        cases hex
        exact lv_dup hx hb hd (by rw [am_tv_cat]; exact hv) (kN lsC hl hll)
      next => cases hex
    next => cases hex
  case pop =>
    simp only [am_lo, beq_iff_eq] at hlo
    subst hlo
    simp only [am_exP] at hex
    split at hex
    next v r =>
      split at hex
      next hv =>
        cases hex
        exact lv_pop hx hb hd (by rw [am_tv_cat]; exact hv) (kN lsC hl hll)
      next => cases hex
    next => cases hex
  case dup2 =>
    simp only [am_lo, beq_iff_eq] at hlo
    subst hlo
    simp only [am_exP] at hex
    split at hex
    next v w r =>
      split at hex
      next hv =>
        cases hex
        exact lv_dup2_11 hx hb hd (by rw [am_tv_cat]; exact hv.1) (by rw [am_tv_cat]; exact hv.2) (kN lsC hl hll)
      next => cases hex
    next => cases hex
  case ifCond cd off =>
    simp only [am_lo, beq_iff_eq] at hlo
    subst hlo
    simp only [am_exP] at hex
    split at hex
    next x r =>
      split at hex
      next t ht0 =>
        have ht := am_tg_sp ht0
        split at hex
        next hc =>
          cases hex
          have kN := kN lsC hl hll
          cases cd <;> simp only [am_c2, decide_eq_true_eq] at hc
          · exact lv_if_eq hx hb hd ht (fun _ => kN) (fun z => absurd hc z)
          · exact lv_if_ne hx hb hd ht (fun _ => kN) (fun z => absurd z hc)
          · exact lv_if_lt hx hb hd ht (fun _ => kN) (fun z => absurd hc z)
          · exact lv_if_ge hx hb hd ht (fun _ => kN) (fun z => absurd hc z)
          · exact lv_if_gt hx hb hd ht (fun _ => kN) (fun z => absurd hc z)
          · exact lv_if_le hx hb hd ht (fun _ => kN) (fun z => absurd hc z)
        next hc =>
          cases hex
          have kN := kN lsC hl hll
          cases cd <;> simp only [am_c2, decide_eq_true_eq] at hc
          · exact lv_if_eq hx hb hd ht (fun z => absurd z hc) (fun _ => kN)
          · exact lv_if_ne hx hb hd ht (fun z => absurd z hc) (fun _ => kN)
          · exact lv_if_lt hx hb hd ht (fun z => absurd z hc) (fun _ => kN)
          · exact lv_if_ge hx hb hd ht (fun z => absurd z hc) (fun _ => kN)
          · exact lv_if_gt hx hb hd ht (fun z => absurd z hc) (fun _ => kN)
          · exact lv_if_le hx hb hd ht (fun z => absurd z hc) (fun _ => kN)
      next => cases hex
    next => cases hex
  case if_icmp cd off =>
    simp only [am_lo, beq_iff_eq] at hlo
    subst hlo
    simp only [am_exP] at hex
    split at hex
    next y x r =>
      split at hex
      next t ht0 =>
        have ht := am_tg_sp ht0
        split at hex
        next hc =>
          cases hex
          have kN := kN lsC hl hll
          cases cd <;> simp only [am_c2, decide_eq_true_eq] at hc
          · exact lv_icmp_eq hx hb hd ht (fun _ => kN) (fun z => absurd hc z)
          · exact lv_icmp_ne hx hb hd ht (fun _ => kN) (fun z => absurd z hc)
          · exact lv_icmp_lt hx hb hd ht (fun _ => kN) (fun z => absurd hc z)
          · exact lv_icmp_ge hx hb hd ht (fun _ => kN) (fun z => absurd hc z)
          · exact lv_icmp_gt hx hb hd ht (fun _ => kN) (fun z => absurd hc z)
          · exact lv_icmp_le hx hb hd ht (fun _ => kN) (fun z => absurd hc z)
        next hc =>
          cases hex
          have kN := kN lsC hl hll
          cases cd <;> simp only [am_c2, decide_eq_true_eq] at hc
          · exact lv_icmp_eq hx hb hd ht (fun z => absurd z hc) (fun _ => kN)
          · exact lv_icmp_ne hx hb hd ht (fun z => absurd z hc) (fun _ => kN)
          · exact lv_icmp_lt hx hb hd ht (fun z => absurd z hc) (fun _ => kN)
          · exact lv_icmp_ge hx hb hd ht (fun z => absurd z hc) (fun _ => kN)
          · exact lv_icmp_gt hx hb hd ht (fun z => absurd z hc) (fun _ => kN)
          · exact lv_icmp_le hx hb hd ht (fun z => absurd z hc) (fun _ => kN)
      next => cases hex
    next => cases hex
  case goto off =>
    simp only [am_lo, beq_iff_eq] at hlo
    subst hlo
    obtain ⟨ht, rfl, rfl⟩ := am_jp_sp hex
    exact lv_goto hx hb hd ht (kN lsC hl hll)
  case tableswitch dflt lo hi offs =>
    simp only [am_exP] at hex
    split at hex
    next x r =>
      split at hex
      next hc =>
        obtain ⟨ht, rfl, rfl⟩ := am_jp_sp hex
        exact lv_tableOut hx hb hd hc ht (kN lsC hl hll)
      next hc =>
        split at hex
        next off ho =>
          obtain ⟨ht, rfl, rfl⟩ := am_jp_sp hex
          exact lv_tableIn hx hb hd (fun z => hc (Or.inl z)) (fun z => hc (Or.inr z)) ho ht (kN lsC hl hll)
        next => cases hex
    next => cases hex
  case getfield k =>
    simp only [am_lo, beq_iff_eq] at hlo
    subst hlo
    simp only [am_exP, am_get] at hex
    split at hex
    next a r =>
      split at hex
      next kd ci i0 t hF =>
        split at hex
        next cj fs hh =>
          split at hex
          next hcj =>
            split at hex
            next v hv =>
              subst hcj
              cases hex
              obtain ⟨C, T, N, ty, hc, hi, hk4, h02, h13, -⟩ := hGF _ _ _ _ _ _ hF
              have he : (am_tw ad cA h)[a]? = some (ad a, .inr (cj, fs.map (am_tv ad))) := am_tw_get hh
              have hv' : (fs.map (am_tv ad))[i0]? = some (am_tv ad v) := by rw [List.getElem?_map, hv]; rfl
              by_cases hkd : kd = 0 ∨ kd = 2
              · exact va_get (D := D) (ci := cj) (v := am_tv ad v) hx hb hts (hGC _ _ _ _ hc).1 hown hK hP a he hc i0 hi (hts _ (h02 hkd)) (fun _ z => z) hv' hd (kN lsC hl hll)
              · obtain ⟨host, hho⟩ := h13 (by omega)
                exact va_getN (D := D) (ci := cj) (v := am_tv ad v) (host := host) hx hb hts (hGC _ _ _ _ hc).1 hown hK hP a he hc i0 hi (va_Nw.use rfl (hE.2.2.1 _ hho)) (fun _ z => z) hv' hd (kN lsC hl hll)
            next => cases hex
          next => cases hex
        next => cases hex
      next => cases hex
    next => cases hex
  case getstatic k =>
    simp only [am_lo, beq_iff_eq] at hlo
    subst hlo
    simp only [am_exP] at hex
    split at hex
    next x hX =>
      split at hex
      next h3 =>
        cases hex
        obtain ⟨h1, hlink⟩ := hGS.1 _ _ _ hX h3
        have hz := hE.2.1 x h1 h3
        rw [hxa x h3] at hz
        exact va_gets hx hb hz hS hown (hts _ hlink) (fun _ z => z) hd (kN lsC hl hll)
      next => cases hex
    next => cases hex
  case iaload =>
    simp only [am_lo, beq_iff_eq] at hlo
    subst hlo
    simp only [am_exP, am_iald] at hex
    split at hex
    next i0 a r =>
      split at hex
      next hax =>
        split at hex
        next hin =>
          cases hex
          obtain ⟨k0, hk0⟩ : ∃ k0, a = am_x0 + k0 := ⟨a - am_x0, (Nat.add_sub_cancel' hax).symm⟩
          subst hk0
          have hk3 : k0 < 3 := Nat.lt_of_add_lt_add_left hin.1
          rw [Nat.add_sub_cancel_left] at hin
          have hin1 := am_ix_in hin.2
          have hkN := kN lsC hl hll
          rw [Nat.add_sub_cancel_left] at hkN
          obtain ⟨cell, g1, g2, g3, g4, g5, g6⟩ := (hE.1 k0 hk3).1.kept (hS.2.1 _ (hE.1 k0 hk3).1.lt (hE.1 k0 hk3).2)
          rw [hxa k0 hk3] at g1
          have hlt : i0.toNatClampNeg < (X k0).1 := Nat.not_le.mp fun q => hin1 (Or.inr q)
          exact W.iald (v := .int ((X k0).2 i0.toNatClampNeg)) hx hb g1 g2 g3 (fun z => z.elim (fun z => hin1 (Or.inl z)) (fun z => by omega)) (g6 _ hlt) rfl rfl hd hkN
        next => cases hex
      next hax =>
        split at hex
        next t n f hh =>
          split at hex
          next hin =>
            obtain ⟨rfl, hin⟩ := hin
            cases hex
            have he : (am_tw ad cA h)[a]? = some (ad a, .inl (cA 0, n, .inl f)) := am_tw_get hh
            exact va_iald hx hb hK hP a 0 he rfl (am_ix_in hin) hd (kN lsC hl hll)
          next => cases hex
        next => cases hex
    next => cases hex
  case baload =>
    simp only [am_lo, beq_iff_eq] at hlo
    subst hlo
    simp only [am_exP, am_zald] at hex
    split at hex
    next i0 a r =>
      split at hex
      next t n f hh =>
        split at hex
        next hin =>
          obtain ⟨rfl, hin⟩ := hin
          cases hex
          have he : (am_tw ad cA h)[a]? = some (ad a, .inl (cA 2, n, .inl f)) := am_tw_get hh
          exact va_zald hx hb hK hP a 2 he rfl (am_ix_in hin) hd (kN lsC hl hll)
        next => cases hex
      next => cases hex
    next => cases hex
  case laload =>
    simp only [am_lo, beq_iff_eq] at hlo
    subst hlo
    simp only [am_exP, am_lald] at hex
    split at hex
    next i0 a r =>
      split at hex
      next t n f hh =>
        split at hex
        next hin =>
          obtain ⟨rfl, hin⟩ := hin
          cases hex
          have he : (am_tw ad cA h)[a]? = some (ad a, .inl (cA 1, n, .inr (.inl f))) := am_tw_get hh
          exact va_lald hx hb hK hP a 1 he rfl (am_ix_in hin) hd (kN lsC hl hll)
        next => cases hex
      next => cases hex
    next => cases hex
  case aaload =>
    simp only [am_lo, beq_iff_eq] at hlo
    subst hlo
    simp only [am_exP, am_aald] at hex
    split at hex
    next i0 a r =>
      split at hex
      next t n f hh =>
        split at hex
        next hin =>
          obtain ⟨ht, hin⟩ := hin
          cases hex
          have hkN := kN lsC hl hll
          rw [List.map_cons, am_tv_rf] at hkN
          rcases ht with rfl | rfl
          · have he : (am_tw ad cA h)[a]? = some (ad a, .inl (cA 3, n, .inr (.inr (.inr (.inr (fun j => (f j).map ad)))))) := am_tw_get hh
            have hin := am_ix_in hin
            have hlt : i0.toNatClampNeg < n := Nat.not_le.mp fun q => hin (Or.inr q)
            exact W.aald (v := va_rf ((f i0.toNatClampNeg).map ad)) (ty := .array .long) hx hb (hP a _ he) ((hK.2 3 _ rfl).1 n (fun j => va_rf ((f j).map ad))) rfl (fun q => by cases q) (by show ¬ (i0 < 0 ∨ (arrV _ _ _).slots.size ≤ _); rw [arrV_size]; exact hin) (by show (arrV _ _ _).slots[_]? = _; rw [arrV_read _ _ hlt]) rfl rfl hd hkN
          · have he : (am_tw ad cA h)[a]? = some (ad a, .inl (cA 4, n, .inr (.inr (.inr (.inr (fun j => (f j).map ad)))))) := am_tw_get hh
            exact va_aldq hx hb hK hP a 4 he rfl (am_ix_in hin) hd hkN
        next => cases hex
      next => cases hex
    next => cases hex
  case arraylength =>
    simp only [am_lo, beq_iff_eq] at hlo
    subst hlo
    simp only [am_exP, am_alen] at hex
    split at hex
    next a r =>
      split at hex
      next hax =>
        split at hex
        next hin =>
          cases hex
          obtain ⟨k0, hk0⟩ : ∃ k0, a = am_x0 + k0 := ⟨a - am_x0, (Nat.add_sub_cancel' hax).symm⟩
          subst hk0
          have hk3 : k0 < 3 := Nat.lt_of_add_lt_add_left hin
          have hkN := kN lsC hl hll
          rw [Nat.add_sub_cancel_left] at hkN
          obtain ⟨cell, g1, g2, g3, g4, g5, g6⟩ := (hE.1 k0 hk3).1.kept (hS.2.1 _ (hE.1 k0 hk3).1.lt (hE.1 k0 hk3).2)
          rw [hxa k0 hk3] at g1
          exact W.alen (n := Int32.ofNat (X k0).1) hx hb g1 g2 g5 rfl rfl hd hkN
        next => cases hex
      next hax =>
        split at hex
        next t n cc hh =>
          split at hex
          next ht =>
            cases hex
            have he : (am_tw ad cA h)[a]? = some (ad a, .inl (cA t, n, am_tc ad cc)) := am_tw_get hh
            have hkN := kN lsC hl hll
            obtain ⟨ty, hty⟩ : ∃ ty, (am_tys cA EC)[t]? = some (cA t, ty) := by
              have h5 : t = 0 ∨ t = 1 ∨ t = 2 ∨ t = 3 ∨ t = 4 := by omega
              rcases h5 with rfl | rfl | rfl | rfl | rfl <;> exact ⟨_, rfl⟩
            exact va_alen hx hb hK hP a t he hty rfl hd hkN
          next => cases hex
        next => cases hex
    next => cases hex
  case invokestatic k =>
    simp only [am_lo, beq_iff_eq] at hlo
    subst hlo
    simp only [am_exP, am_min] at hex
    split at hex
    next j na ci hy =>
      split at hex
      next y x r =>
        split at hex
        next hin =>
          cases hex
          obtain ⟨-, -, h6, -⟩ := hGY _ _ _ _ _ _ hy
          obtain ⟨q1, q2, q3, q4⟩ := h6 rfl
          exact va_mmin hx hb (by rw [hml, hl.1]) hown (hts _ q1) (hts _ q2) (hts _ q3) (hts _ q4) (by omega) (by rw [am_w_map]; omega) hcR hsR hd (kN lsC hl hll)
        next => cases hex
      next => cases hex
    next => cases hex
  case invokespecial k =>
    simp only [am_lo, beq_iff_eq] at hlo
    subst hlo
    simp only [am_exP, am_oi] at hex
    split at hex
    next j na ci hy =>
      split at hex
      next a r =>
        split at hex
        next hin =>
          cases hex
          obtain ⟨-, q5, -⟩ := hGY _ _ _ _ _ _ hy
          obtain ⟨q1, q2, q3⟩ := q5 rfl
          exact W.objInit hx hb hown (hts _ q1) (hts _ q2) (hts _ q3) (g := F0 m pc lsC (.ref (ad a) :: st'.map (am_tv ad))) rfl (by rw [hml]; exact hl.1) rfl hd (by omega) (by rw [am_w_map]; show 2 * 0 + _ + 12 ≤ _; omega) (kN lsC hl hll)
        next => cases hex
      next => cases hex
    next => cases hex
  all_goals cases hex
end AMP
