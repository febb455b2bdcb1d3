/-! THE CLAIM OUT OF ONE WALK OF THE LAW'S BODY. Your part is whole_start (and what it stands on); all else here is the same for every law, but numbers. -/
def R_law : String := "SampledBanksLaw"
def lw_P (b : Addr) (xs : List Int32) (args : Array Value) (s : State) : Prop := args = #[.ref b] ∧ s.IntsAt b xs ∧ xs.length ≤ 2048 ∧ (Jvm.Cond.and given_1 narrow_1).before args s = true
def lw_Q (_ : Array Value) (s : State) (o : Outcome) (t : State) : Prop := o = .returned (some (.int 1)) ∧ Framed s o t [] 600000 7302250
def lw_Z (below : List Frame) (a : Array Value) (s : State) : State → Prop := fun t => ∃ o, t.status = .running ∧ Ended t below o ∧ lw_Q a s o t
/-- the law's own end, with 1 on the stack, nothing written that was there before, its room as the claim has it -/
theorem lw_ret {p : Program} {l : Launch} {e : Env} {s : State} {m : MethodId} {below : List Frame} {meth : Method} {c : Code} {b : Nat} (hx : p.tables.exec = Jvm.exec) (hb : c.code = code) (hr : meth.sig.returnType = ret) (hlocks : meth.locks = false) {pc : Nat} {H : Heap} {ls : Array Slot} (hdg : decode code pc = .ok (.ireturn, 1)) : W p l e room_1 s m #[Value.ref b] below meth c H [] 600000 7302250 (lw_Z below #[Value.ref b] s) (F0 m pc ls [.int 1]) := by
  intro T hT X
  obtain ⟨fs, hret, hrun, hended, hW, hframe⟩ := X.leave (v := some (.int 1)) (hlocks := hlocks) (fun h => by rw [hr] at h; cases h)
  have hmeth' : T.vm.method? m = some meth := X.method'
  refine ⟨T.setFrames fs, ?_, .returned (some (.int 1)), hrun, hended, rfl, ⟨_, rfl⟩, hW, hframe⟩
  jvm_step X.here [X.here.top, hx, hb, hdg, hmeth', hr, ret, narrow_b1]
  (try refine ⟨rfl, ?_⟩); (try refine ⟨rfl, ?_⟩)
  first | (intro acts; rw [hret _ acts rfl rfl rfl]) | rw [hret _ _ rfl rfl rfl]
  exact Steps.refl _
/-- what holds at the law's entry: the machine, the code, the tables' words (any of lw_tbl by 'hts w (by decide +kernel)'), the script of L ints xs at the cell b, what the Statement gives of the start (any of its parts by flat_of_before) -/
def lw_At (p : Program) (s : State) (m : MethodId) (meth : Method) (c : Code) (b L : Nat) (xs : Nat → Int32) : Prop :=
  p.tables.exec = Jvm.exec ∧ c.code = code ∧ meth.sig.returnType = ret ∧ c.maxLocals = 4 ∧ s.vm.findClass R_law = some m.cls ∧ (∀ w ∈ lw_tbl, w.before #[Value.ref b] s = true) ∧ va_X b L xs s s.heap ∧ b < s.heap.size ∧ meth.locks = false ∧ (Jvm.Cond.and given_1 narrow_1).before #[Value.ref b] s = true
/-! The law's entry: what the Statement gives, in the abstract machine's words -/
def am_s1 : Nat → Int32 := fun j => match j with
  | 1 => 2
  | 3 => 2
  | _ => 0
def am_s2 : Nat → Int32 := fun j => match j with
  | 0 => 1
  | 1 => 3
  | 2 => 2
  | 3 => 3
  | _ => 1
def am_xs (L : Nat) (xs : Nat → Int32) : am_X := fun k => match k with
  | 0 => (L, xs)
  | 1 => (5, am_s1)
  | _ => (5, am_s2)
/-- what is left to show of the abstract machine: the law's run ends, with 1, within the room -/
def am_law : Prop := ∀ (L : Nat) (xs : Nat → Int32), L ≤ 2048 → ar Pg (am_xs L xs) 10 n_L_law 0 [some (.ref am_x0), none, none, none] [] [] (fun r h' => r = some (.int 1) ∧ h'.length ≤ 600000 ∧ am_sz h' ≤ 7302250)
theorem am_arr {s : State} {args : Array Value} {ty : FieldType} (h : (Cond.arrayClass ty).before args s = true) : ∃ c : ClassId, ArrOfT s c ty ∧ s.vm.findClass ("[" ++ ty.toString) = some c := by
  obtain ⟨c, k, comp, h1, h2, h3⟩ := Cond.arrayClass_spec h
  exact ⟨c, fun _ _ => ⟨(fun q hq => by cases hq), k, h2, comp, h3⟩, h1⟩
theorem am_KA {s : State} {args : Array Value} (hts : ∀ w ∈ lw_tbl, w.before args s = true) : ∃ cA : Nat → ClassId, ∀ (k : Nat) (q : ClassId × FieldType), (am_tys cA "SampledBanks$Records")[k]? = some q → ArrOfT s q.1 q.2 ∧ va_RA s q.1 q.2 := by
  obtain ⟨c0, a0, f0⟩ := am_arr (hts (.arrayClass .int) (am_tb1 44 rfl))
  obtain ⟨c1, a1, f1⟩ := am_arr (hts (.arrayClass .long) (am_tb1 68 rfl))
  obtain ⟨c2, a2, f2⟩ := am_arr (hts (.arrayClass .boolean) (am_tb1 45 rfl))
  obtain ⟨comp3, c3, k3, g1, -, g3, g4, g5⟩ := arrayOverA_spec (hts (.arrayOver (.array .long)) (am_tb1 76 rfl))
  obtain ⟨comp4, c4, k4, e1, -, e3, e4, e5⟩ := Cond.arrayOver_spec (hts (.arrayOver (.object "SampledBanks$Records")) (am_tb1 20 rfl))
  refine ⟨fun k => match k with | 0 => c0 | 1 => c1 | 2 => c2 | 3 => c3 | _ => c4, fun k q h => ?_⟩
  match k, h with
  | 0, h => cases h; exact ⟨a0, f0⟩
  | 1, h => cases h; exact ⟨a1, f1⟩
  | 2, h => cases h; exact ⟨a2, f2⟩
  | 3, h => cases h; exact ⟨fun _ _ => ⟨(fun q hq => by cases hq), k3, g3, comp3, g4⟩, g5⟩
  | 4, h => cases h; exact ⟨fun _ _ => ⟨(fun q hq => by cases hq), k4, e3, comp4, e4⟩, k4, comp4, e3, e4, e1, e5⟩
  | _ + 5, h => cases h
theorem am_KC {s : State} {args : Array Value} (hts : ∀ w ∈ lw_tbl, w.before args s = true) : ∃ D : va_G, ∀ (c : Nat) (q : vw_C), am_cls[c]? = some q → u_Kn s q.1 q.2.1 q.2.2 (D.1 c) (D.2 c) := by
  have hin : ∀ {C : String} {T : u_T} {N : Nat}, (∀ w ∈ u_ws C T N, w ∈ am_WS) → ∀ w ∈ u_ws C T N, w ∈ lw_tbl := fun h w hw => (List.mem_filter.mp (h w hw)).1
  obtain ⟨c0, i0, h0⟩ := u_known hts (hin glay_B) (hts (.instantiable "SampledBanks" 5) (am_tb1 12 rfl))
  obtain ⟨c1, i1, h1⟩ := u_known hts (hin glay_R) (hts (.instantiable "SampledBanks$Records" 4) (am_tb1 21 rfl))
  obtain ⟨c2, i2, h2⟩ := u_known hts (hin glay_Y) (hts (.instantiable "SampledBanks$Polynomial" 2) (am_tb1 53 rfl))
  obtain ⟨c3, i3, h3⟩ := u_known hts (hin glay_Q) (hts (.instantiable "SampledBanks$Equations" 3) (am_tb1 70 rfl))
  obtain ⟨c4, i4, h4⟩ := u_known hts (hin glay_A) (hts (.instantiable "SampledBanks$Fraction" 7) (am_tb1 47 rfl))
  obtain ⟨c5, i5, h5⟩ := u_known hts (hin glay_M) (hts (.instantiable "SampledBanksModel" 27) (am_tb2 154 rfl))
  refine ⟨(fun k => match k with | 0 => c0 | 1 => c1 | 2 => c2 | 3 => c3 | 4 => c4 | _ => c5, fun k => match k with | 0 => i0 | 1 => i1 | 2 => i2 | 3 => i3 | 4 => i4 | _ => i5), fun c q h => ?_⟩
  match c, h with
  | 0, h => cases h; exact h0
  | 1, h => cases h; exact h1
  | 2, h => cases h; exact h2
  | 3, h => cases h; exact h3
  | 4, h => cases h; exact h4
  | 5, h => cases h; exact h5
  | _ + 6, h => cases h
theorem am_xoT {s : State} {A : Nat → Prop} {t N : Nat} {f : Nat → Int32} (h : va_T .int t N (fun j => .int (f j)) A s s.heap) : am_xo s s.heap t N f ∧ ¬ A t := by
  obtain ⟨cell, h1, h2, h3, h4, h5, h6, h7⟩ := h
  exact ⟨⟨cell, h1, h2, h3, h4, h5, h6⟩, h7⟩
theorem am_xoX {s : State} {b L : Nat} {xs : Nat → Int32} (h : va_X b L xs s s.heap) : am_xo s s.heap b L xs := by
  obtain ⟨scr, h1, h2, h3, h4, h5⟩ := h
  exact ⟨scr, h1, h2, h3, by omega, (by rw [h4]), h5⟩
set_option maxHeartbeats 1000000 in
theorem am_start (hlaw : am_law) {p : Program} {e : Env} {s : State} {m : MethodId} {below : List Frame} {meth : Method} {c : Code} (l : Launch) {b L : Nat} {xs : Nat → Int32} (hL : L ≤ 2048) (C0 : lw_At p s m meth c b L xs) : W p l e room_1 s m #[Value.ref b] below meth c s.heap [] 0 0 (lw_Z below #[Value.ref b] s) (entryFrame m ([Value.ref b] : List Value).toArray 4) := by
  obtain ⟨hx, hb, hr, hml, hown, hts, hX, hbl, hlocks, hgv⟩ := C0
  have hs := flat_of_before _ hgv
  obtain ⟨cA, hKA⟩ := am_KA hts
  obtain ⟨D, hKC⟩ := am_KC hts
  have hAl : ∀ a : Nat, a < s.heap.size → ¬ (fun q => s.heap.size ≤ q) a := fun a h z => Nat.not_le.mpr h z
  have hini := hts (.initialized "SampledBanks") (am_tb1 1 rfl)
  obtain ⟨t1, hv1, hT1⟩ := va_Tof (A := fun q => s.heap.size ≤ q) (tm := .static "SampledBanks" "SPREAD_FIRST" "[I") (ty := .int) (N := 5) (f := fun j => .int (am_s1 j)) (by decide) (hs _ (by decide +kernel)) (va_eqt (z := 5) (hs _ (by decide +kernel))) (fun j hj => by
    have h5 : j = 0 ∨ j = 1 ∨ j = 2 ∨ j = 3 ∨ j = 4 := by omega
    rcases h5 with rfl | rfl | rfl | rfl | rfl
    · exact va_eqt (z := 0) (hs _ (by decide +kernel))
    · exact va_eqt (z := 2) (hs _ (by decide +kernel))
    · exact va_eqt (z := 0) (hs _ (by decide +kernel))
    · exact va_eqt (z := 2) (hs _ (by decide +kernel))
    · exact va_eqt (z := 0) (hs _ (by decide +kernel))) hAl
  obtain ⟨t2, hv2, hT2⟩ := va_Tof (A := fun q => s.heap.size ≤ q) (tm := .static "SampledBanks" "SPREAD_SECOND" "[I") (ty := .int) (N := 5) (f := fun j => .int (am_s2 j)) (by decide) (hs _ (by decide +kernel)) (va_eqt (z := 5) (hs _ (by decide +kernel))) (fun j hj => by
    have h5 : j = 0 ∨ j = 1 ∨ j = 2 ∨ j = 3 ∨ j = 4 := by omega
    rcases h5 with rfl | rfl | rfl | rfl | rfl
    · exact va_eqt (z := 1) (hs _ (by decide +kernel))
    · exact va_eqt (z := 3) (hs _ (by decide +kernel))
    · exact va_eqt (z := 2) (hs _ (by decide +kernel))
    · exact va_eqt (z := 3) (hs _ (by decide +kernel))
    · exact va_eqt (z := 1) (hs _ (by decide +kernel))) hAl
  have hZ1 : va_Z "SampledBanks" "SPREAD_FIRST" "[I" (.ref t1) (fun q => s.heap.size ≤ q) s s.heap := va_Zof (hts _ (am_tb2 123 rfl)) hini hv1 hAl
  have hZ2 : va_Z "SampledBanks" "SPREAD_SECOND" "[I" (.ref t2) (fun q => s.heap.size ≤ q) s s.heap := va_Zof (hts _ (am_tb2 125 rfl)) hini hv2 hAl
  obtain ⟨n, r, h', hrun, hr1, hlen, hsz⟩ := hlaw L xs hL
  have hE : am_EX "SampledBanks$Records" (am_xs L xs) am_NW am_STt (fun k => (fun k => if k = am_x0 then b else if k = am_x0 + 1 then t1 else t2) (am_x0 + k)) (fun q => s.heap.size ≤ q) s s.heap := by
    refine ⟨fun k hk => ?_, fun k h1 hk => ?_, fun w hw => ?_, hts (.arrayOver (.object "SampledBanks$Records")) (am_tb1 20 rfl), hts (.arrayOver (.array .long)) (am_tb1 76 rfl)⟩
    · have h3 : k = 0 ∨ k = 1 ∨ k = 2 := by omega
      rcases h3 with rfl | rfl | rfl
      · exact ⟨am_xoX hX, Nat.not_le.mpr hbl⟩
      · exact am_xoT hT1
      · exact am_xoT hT2
    · have h3 : k = 1 ∨ k = 2 := by omega
      rcases h3 with rfl | rfl
      · exact hZ1
      · exact hZ2
    · obtain ⟨h1, h2⟩ := List.mem_filter.mp hw
      refine va_Nw.of ?_ (hts w h1)
      cases w <;> first | rfl | (simp [am_isn] at h2; done)
  have hl := am_entry (fun k => if k = am_x0 then b else if k = am_x0 + 1 then t1 else t2) [Value.ref am_x0] (n := 4) (by decide)
  rw [lg_entry_eq]
  refine am_sound (X := am_xs L xs) (D := D) (cA := cA) (l := l) am_gG n 10 n_L_law m_L_law 0 _ [] [] h' r M_L_law hrun p e room_1 s m #[Value.ref b] below meth c s.heap [] 0 0 600000 7302250 0 (fun q => s.heap.size ≤ q) (fun k => if k = am_x0 then b else if k = am_x0 + 1 then t1 else t2) (fun k => if k = am_x0 then b else if k = am_x0 + 1 then t1 else t2) _ (lw_Z below #[Value.ref b] s) ⟨hx, hb, hml, hr, fun w hw => hts w (List.mem_filter.mp hw).1, hown, hlocks, fun z => absurd z (by decide +kernel), ⟨hKC, hKA⟩, fun q h => h, hE⟩ ⟨(fun k q h => by cases h), ⟨(fun i j p q h => by cases h), (fun k q h => by cases h)⟩, va_S.rf⟩ hl rfl (Nat.le_refl _) (am_ag.rf _ _) (fun _ => rfl) (by show 0 + h'.length ≤ 600000 + 0; omega) (by show 0 + am_sz h' ≤ 7302250 + 0; omega) (Nat.le_refl _) (Nat.le_refl _) (Nat.le_refl _) (by decide) ?_
  · intro ad' H' locs' pc' lsC' i hag hne hJ hd hi
    subst hr1
    obtain ⟨hP', hD', hS'⟩ := hJ
    rcases hi with ⟨rfl, v, hv, ht⟩ | ⟨rfl, v, hv, ht⟩ | ⟨rfl, a, nm, hv, ht⟩ | ⟨rfl, hv, ht⟩
    · exact va_forget (fun q hq => hS'.2.2 q hq) (lw_ret hx hb hr hlocks hd)
    · cases hv
    · cases hv
    · cases hv
