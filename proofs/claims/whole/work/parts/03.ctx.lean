/-! What a method's activation stands on; what the tables must say -/
def am_tys (cA : Nat → ClassId) (EC : String) : List (ClassId × FieldType) := [(cA 0, .int), (cA 1, .long), (cA 2, .boolean), (cA 3, .array .long), (cA 4, .object EC)]
def am_xo (U : State) (H : Heap) (b L : Nat) (xs : Nat → Int32) : Prop := ∃ cell : Cell, H[b]? = some cell ∧ U.isArrayOf cell .int ∧ cell.vm ≠ .unknown ∧ L ≤ cell.slots.size ∧ cell.slots.size.toInt32 = Int32.ofNat L ∧ ∀ j : Nat, j < L → cell.slots[j]? = some (.int (xs j))
theorem am_xo.kept {U : State} {H H1 : Heap} {b L : Nat} {xs : Nat → Int32} (h : am_xo U H b L xs) (hq : H1[b]? = H[b]?) : am_xo U H1 b L xs := by
  obtain ⟨cell, h1, h2⟩ := h
  exact ⟨cell, by rw [hq]; exact h1, h2⟩
theorem am_xo.moved {u U : State} {H : Heap} {b L : Nat} {xs : Nat → Int32} (hvm : u.vm.Alike U.vm) (h : am_xo u H b L xs) : am_xo U H b L xs := by
  obtain ⟨cell, h1, h2, h3⟩ := h
  exact ⟨cell, h1, State.isArrayOf_alike hvm h2, h3⟩
theorem am_xo.lt {U : State} {H : Heap} {b L : Nat} {xs : Nat → Int32} (h : am_xo U H b L xs) : b < H.size := by
  obtain ⟨cell, h1, -⟩ := h
  exact (Array.getElem?_eq_some_iff.mp h1).1
def am_AOA (U : State) : Prop := (Cond.arrayOver (.array .long)).before #[] U = true
def am_EX (EC : String) (X : am_X) (NW : List Cond) (ST : Nat → String × String × String) (xa : Nat → Nat) (A : Nat → Prop) (U : State) (H : Heap) : Prop :=
  (∀ k, k < 3 → am_xo U H (xa k) (X k).1 (X k).2 ∧ ¬ A (xa k)) ∧ (∀ k, 1 ≤ k → k < 3 → va_Z (ST k).1 (ST k).2.1 (ST k).2.2 (.ref (xa k)) A U H) ∧ (∀ w ∈ NW, va_Nw w U) ∧ va_AO EC U ∧ am_AOA U
def am_GNW (NW : List Cond) : Prop := ∀ w ∈ NW, (∃ (a : String) (i : Nat) (b n d h : String), w = .fieldLinkNest a i b n d h) ∨ ∃ (a : String) (i : Nat) (x : MethodName) (h : String), w = .methodLinkNest a i x h
theorem am_AOA.moved {u U : State} (hvm : u.vm.Alike U.vm) (h : am_AOA u) : am_AOA U := over_moved hvm h
section AMEX
variable {EC : String} {X : am_X} {NW : List Cond} {ST : Nat → String × String × String} {xa : Nat → Nat} {A B : Nat → Prop} {s U : State} {H H1 : Heap}
theorem am_EX.kept (h : am_EX EC X NW ST xa A U H) (hq : ∀ a : Nat, a < H.size → ¬ A a → H1[a]? = H[a]?) : am_EX EC X NW ST xa A U H1 :=
  ⟨fun k hk => ⟨(h.1 k hk).1.kept (hq _ (h.1 k hk).1.lt (h.1 k hk).2), (h.1 k hk).2⟩, fun k h1 hk => (h.2.1 k h1 hk).kept hq, h.2.2⟩
theorem am_EX.narrow (h : am_EX EC X NW ST xa A U H) (hAB : ∀ q, B q → A q) : am_EX EC X NW ST xa B U H :=
  ⟨fun k hk => ⟨(h.1 k hk).1, fun z => (h.1 k hk).2 (hAB _ z)⟩, fun k h1 hk => (h.2.1 k h1 hk).narrow hAB, h.2.2⟩
theorem am_EX.warm (hG : am_GNW NW) (hW : s.WarmedH U.vm) (h : am_EX EC X NW ST xa A s H) : am_EX EC X NW ST xa A U H :=
  ⟨fun k hk => ⟨(h.1 k hk).1.moved hW.alike, (h.1 k hk).2⟩, fun k h1 hk => (h.2.1 k h1 hk).moved hW.alike, fun w hw => by
    rcases hG w hw with ⟨a, i, b, n, d, g, rfl⟩ | ⟨a, i, x, g, rfl⟩
    · exact va_Nw.warmF hW (h.2.2.1 _ hw)
    · exact va_Nw.warmM hW (h.2.2.1 _ hw), h.2.2.2.1.moved hW.alike, am_AOA.moved hW.alike h.2.2.2.2⟩
theorem am_EX.same (hG : am_GNW NW) (hvm : s.vm = U.vm) (h : am_EX EC X NW ST xa A s H) : am_EX EC X NW ST xa A U H := by
  have hal : s.vm.Alike U.vm := by rw [hvm]; exact Vm.Alike.refl _
  exact ⟨fun k hk => ⟨(h.1 k hk).1.moved hal, (h.1 k hk).2⟩, fun k h1 hk => (h.2.1 k h1 hk).moved hal, fun w hw => by
    rcases hG w hw with ⟨a, i, b, n, d, g, rfl⟩ | ⟨a, i, x, g, rfl⟩
    · exact va_Nw.same rfl hvm (h.2.2.1 _ hw)
    · exact va_Nw.same rfl hvm (h.2.2.1 _ hw), h.2.2.2.1.moved hal, am_AOA.moved hal h.2.2.2.2⟩
end AMEX
def am_GF (F : am_F) (CN : Nat → String) (cl : List vw_C) (WS NW : List Cond) : Prop := ∀ (own k kd ci i t : Nat), F own k = some (kd, ci, i, t) → ∃ (C : String) (T : u_T) (N : Nat) (ty : FieldType), cl[ci]? = some (C, T, N) ∧ i < N ∧ kd < 4 ∧
  (kd = 0 ∨ kd = 2 → Cond.fieldLink (CN own) k (T i).1 (T i).2.1 (T i).2.2.1 ∈ WS) ∧ (kd = 1 ∨ kd = 3 → ∃ host : String, Cond.fieldLinkNest (CN own) k (T i).1 (T i).2.1 (T i).2.2.1 host ∈ NW) ∧ (kd = 0 ∨ kd = 1 → (T i).2.2.2 = false) ∧ (kd = 2 → (T i).2.2.2 = true ∧ (T i).1 = CN own) ∧
  parseFieldDescriptor (T i).2.2.1 = some ty ∧ (t = 0 → ty = .int) ∧ (t = 1 → ty = .long) ∧ (t = 2 → (∃ n, ty = .object n) ∨ ∃ u, ty = .array u)
def am_GC (cl : List vw_C) (WS : List Cond) : Prop := ∀ (ci : Nat) (C : String) (T : u_T) (N : Nat), cl[ci]? = some (C, T, N) → (∀ w ∈ u_ws C T N, w ∈ WS) ∧ (∃ ty : Nat → FieldType, ∀ k, k < N → parseFieldDescriptor (T k).2.2.1 = some (ty k)) ∧ (∀ a, a < N → ∀ b, b < N → a ≠ b → (T a).2.1 ≠ (T b).2.1)
def am_GN (Nw : Nat → Nat → Option (Nat × List Value)) (CN : Nat → String) (cl : List vw_C) (WS : List Cond) (ec : Nat) (EC : String) : Prop := (∃ (T : u_T) (N : Nat), cl[ec]? = some (EC, T, N)) ∧ ∀ (own k ci : Nat) (fs : List Value), Nw own k = some (ci, fs) → ∃ (C : String) (T : u_T) (N : Nat) (ty : Nat → FieldType), cl[ci]? = some (C, T, N) ∧ Cond.classLink (CN own) k C ∈ WS ∧ Cond.instantiable C N ∈ WS ∧ Cond.initialized C ∈ WS ∧ fs.length = N ∧ (∀ k, k < N → parseFieldDescriptor (T k).2.2.1 = some (ty k)) ∧ (∀ j, j < N → defaultValue (ty j) = vp_V fs j) ∧ ∀ ad : Nat → Nat, fs.map (am_tv ad) = fs
def am_cal (M : am_M) (na : Nat) (WS : List Cond) : Prop := plainFor M.1 = true ∧ M.2.2.1 ≤ 21 ∧ Cond.code M.1 M.2.1 M.2.2.1 M.2.2.2.1 ∈ WS ∧ Cond.initialized M.1.cls ∈ WS ∧ M.1.cls ≠ "java/lang/invoke/MethodHandle" ∧ M.1.cls ≠ "java/lang/invoke/VarHandle" ∧ (parseMethodDescriptor M.1.desc).map (fun d => d.parameters.length) = some na
def am_sel (WS : List Cond) (y : MethodName) : Prop := ∀ (args : Array Value) (s : State), (∀ w ∈ WS, w.before args s = true) → (Cond.selects y.cls y y).before args s = true
def am_GY (P : am_P) (cl : List vw_C) (WS NW : List Cond) : Prop := ∀ (own k kd j na ci : Nat), P.2.2.1 own k = some (kd, j, na, ci) →
  (kd < 5 → ∃ M2 : am_M, P.1[j]? = some M2 ∧ am_cal M2 na WS ∧ (kd = 0 → Cond.methodLink (P.2.2.2.2.2.2.2 own) k M2.1 ∈ WS ∧ Cond.static M2.1 ∈ WS) ∧
    (kd = 1 → Cond.methodLink (P.2.2.2.2.2.2.2 own) k M2.1 ∈ WS ∧ Cond.instanceMethod M2.1 ∈ WS ∧ am_sel WS M2.1 ∧ ∃ (T : u_T) (N : Nat), cl[ci]? = some (M2.1.cls, T, N)) ∧
    (kd = 2 → (∃ host : String, Cond.methodLinkNest (P.2.2.2.2.2.2.2 own) k M2.1 host ∈ NW) ∧ Cond.instanceMethod M2.1 ∈ WS ∧ am_sel WS M2.1 ∧ ∃ (T : u_T) (N : Nat), cl[ci]? = some (M2.1.cls, T, N)) ∧
    (kd = 3 → Cond.methodLink (P.2.2.2.2.2.2.2 own) k M2.1 ∈ WS ∧ Cond.instanceMethod M2.1 ∈ WS ∧ M2.1.name = "<init>" ∧ M2.2.2.2.1 = none) ∧
    (kd = 4 → (∃ host : String, Cond.methodLinkNest (P.2.2.2.2.2.2.2 own) k M2.1 host ∈ NW) ∧ Cond.instanceMethod M2.1 ∈ WS ∧ M2.1.name = "<init>" ∧ M2.2.2.2.1 = none)) ∧
  (kd = 5 → Cond.methodLink (P.2.2.2.2.2.2.2 own) k Lib.objectInit ∈ WS ∧ Cond.instanceMethod Lib.objectInit ∈ WS ∧ Cond.code Lib.objectInit ⟨#[0xb1]⟩ 1 none ∈ WS) ∧
  (kd = 6 → Cond.methodLink (P.2.2.2.2.2.2.2 own) k Lib.Math.min.name ∈ WS ∧ Cond.static Lib.Math.min.name ∈ WS ∧ Cond.initialized "java/lang/Math" ∈ WS ∧ Cond.code Lib.Math.min.name Lib.Math.min.code 2 (some .int) ∈ WS) ∧
  (kd = 7 → Cond.methodLink (P.2.2.2.2.2.2.2 own) k arraycopyName ∈ WS ∧ Cond.native arraycopyName ∈ WS ∧ Cond.static arraycopyName ∈ WS ∧ Cond.initialized "java/lang/System" ∈ WS)
def am_GM (P : am_P) : Prop := ∀ (j : Nat) (M : am_M), P.1[j]? = some M → M.1.cls = P.2.2.2.2.2.2.2 M.2.2.2.2.1 ∧ ∀ (pc : Nat) (i : Instr) (len : Nat), M.2.2.2.2.2[pc]? = some (some (i, len)) → decode M.2.1 pc = .ok (i, len) ∧ am_lo i len = true ∧ ∀ k ci i0 t : Nat, i = .putfield k → P.2.1 M.2.2.2.2.1 k = some (2, ci, i0, t) → M.1.name = "<init>"
def am_GS (P : am_P) (WS : List Cond) (ST : Nat → String × String × String) : Prop := (∀ own k x : Nat, P.2.2.2.2.2.1 own k = some x → x < 3 → 1 ≤ x ∧ Cond.fieldLink (P.2.2.2.2.2.2.2 own) k (ST x).1 (ST x).2.1 (ST x).2.2 ∈ WS) ∧ (∀ own k : Nat, P.2.2.2.2.2.1 own k = some 77 → Cond.classLink (P.2.2.2.2.2.2.2 own) k "[[J" ∈ WS) ∧ (∀ (own k : Nat) (v : Int64), P.2.2.2.1 own k = some v → Cond.constantLong (P.2.2.2.2.2.2.2 own) k v ∈ WS) ∧ Cond.arrayClass .int ∈ WS ∧ Cond.arrayClass .long ∈ WS ∧ Cond.arrayClass .boolean ∈ WS
def am_GW (WS : List Cond) : Prop := ∀ w ∈ WS, ((w.onTables && w.keeps) = true ∨ ∃ ty, w = .arrayClass ty)
/-- all of them -/
def am_G (P : am_P) (cl : List vw_C) (WS NW : List Cond) (ST : Nat → String × String × String) (EC : String) : Prop :=
  am_GNW NW ∧ am_GF P.2.1 P.2.2.2.2.2.2.2 cl WS NW ∧ am_GC cl WS ∧ am_GN P.2.2.2.2.1 P.2.2.2.2.2.2.2 cl WS P.2.2.2.2.2.2.1 EC ∧ am_GY P cl WS NW ∧ am_GM P ∧ am_GS P WS ST ∧ am_GW WS
/-- an activation: the method, its tables, what lies outside -/
def am_C (CN : Nat → String) (X : am_X) (NW : List Cond) (ST : Nat → String × String × String) (WS : List Cond) (D : va_G) (cl : List vw_C) (cA : Nat → ClassId) (EC : String) (xa : Nat → Nat) (A : Nat → Prop) (M : am_M) (p : Program) (s : State) (m : MethodId) (args : Array Value) (meth : Method) (c : Code) : Prop :=
  p.tables.exec = Jvm.exec ∧ c.code = M.2.1 ∧ c.maxLocals = M.2.2.1 ∧ meth.sig.returnType = M.2.2.2.1 ∧ (∀ w ∈ WS, w.before args s = true) ∧ s.vm.findClass (CN M.2.2.2.2.1) = some m.cls ∧ meth.locks = false ∧ (M.1.name = "<init>" → meth.name = "<init>") ∧ va_K D cl (am_tys cA EC) s ∧ (∀ q, s.heap.size ≤ q → A q) ∧ am_EX EC X NW ST xa A s s.heap
def am_J (D : va_G) (cl : List vw_C) (cA : Nat → ClassId) (A : Nat → Prop) (H0 : Heap) (ad : Nat → Nat) (H : Heap) (locs : List Loc) (h : am_H) : Prop := va_P D cl (am_tw ad cA h) H ∧ va_D A (am_tw ad cA h) ∧ va_S A H0 H locs
section AMCALL
variable {p : Program} {l : Launch} {e : Env} {R : Room} {s : State} {m : MethodId} {args : Array Value} {below : List Frame} {meth : Method} {c : Code} {H : Heap} {locs : List Loc} {cells slots mc ms pc : Nat} {Q : State → Prop} {ls : Array Slot} {rest st0 : List Value} {free : Addr → Prop}
theorem am_callG {Qa : State → Outcome → State → Prop} (hr : va_Run p l e R s m args below meth c H locs cells slots mc ms (F0 m pc ls st0) rest Qa free)
    (kk : ∀ (v : Option Value) (st₀ t : State) (H1 : Heap) (L : List Loc), st₀.heap = H → t.heap = H1 → Qa st₀ (.returned v) t → (∀ q ∈ L, free q.base) → W p l e R s m args below meth c H1 (locs ++ L) (cells + mc) (slots + ms) Q (F0 m (pc + 3) ls (v.toList ++ rest))) : W p l e R s m args below meth c H locs cells slots Q (F0 m pc ls st0) := by
  intro T hT X
  obtain ⟨v, st₀, t, T', L, h0, X', hL, e1, e2, hq, st⟩ := hr T hT X
  obtain ⟨t2, a1, b1⟩ := kk v st₀ t T'.heap L h0 e1.symm hq hL T' rfl X'
  exact ⟨t2, st t2 a1, b1⟩
end AMCALL
-- what the defs of the machine say when they come to something
theorem am_i2_sp {f : Int32 → Int32 → Option Int32} {pc pc' : Nat} {ls ls' : am_L} {st st' : List Value} (h : am_i2 f pc ls st = some (pc', ls', st')) : ∃ x y z r, st = .int y :: .int x :: r ∧ f x y = some z ∧ pc' = pc ∧ ls' = ls ∧ st' = .int z :: r := by
  unfold am_i2 at h
  split at h
  next y x r =>
    split at h
    next z hz =>
      cases h
      exact ⟨x, y, z, r, rfl, hz, rfl, rfl, rfl⟩
    next => cases h
  next => cases h
theorem am_l2_sp {f : Int64 → Int64 → Option Int64} {pc pc' : Nat} {ls ls' : am_L} {st st' : List Value} (h : am_l2 f pc ls st = some (pc', ls', st')) : ∃ x y z r, st = .long y :: .long x :: r ∧ f x y = some z ∧ pc' = pc ∧ ls' = ls ∧ st' = .long z :: r := by
  unfold am_l2 at h
  split at h
  next y x r =>
    split at h
    next z hz =>
      cases h
      exact ⟨x, y, z, r, rfl, hz, rfl, rfl, rfl⟩
    next => cases h
  next => cases h
theorem am_li_sp {pc pc' i : Nat} {ls ls' : am_L} {st st' : List Value} (h : am_li ls i pc st = some (pc', ls', st')) : ∃ x, am_ld ls i = some (.int x) ∧ pc' = pc ∧ ls' = ls ∧ st' = .int x :: st := by
  unfold am_li at h
  split at h
  next x hx =>
    cases h
    exact ⟨x, hx, rfl, rfl, rfl⟩
  next => cases h
theorem am_ll_sp {pc pc' i : Nat} {ls ls' : am_L} {st st' : List Value} (h : am_ll ls i pc st = some (pc', ls', st')) : ∃ x, am_ld ls i = some (.long x) ∧ pc' = pc ∧ ls' = ls ∧ st' = .long x :: st := by
  unfold am_ll at h
  split at h
  next x hx =>
    cases h
    exact ⟨x, hx, rfl, rfl, rfl⟩
  next => cases h
theorem am_la_sp {pc pc' i : Nat} {ls ls' : am_L} {st st' : List Value} (h : am_la ls i pc st = some (pc', ls', st')) : ∃ x, am_ld ls i = some (.ref x) ∧ pc' = pc ∧ ls' = ls ∧ st' = .ref x :: st := by
  unfold am_la at h
  split at h
  next x hx =>
    cases h
    exact ⟨x, hx, rfl, rfl, rfl⟩
  next => cases h
theorem am_si_sp {pc pc' i : Nat} {ls ls' : am_L} {st st' : List Value} (h : am_si ls i pc st = some (pc', ls', st')) : ∃ x r, st = .int x :: r ∧ i < ls.length ∧ pc' = pc ∧ ls' = am_st i (.int x) ls ∧ st' = r := by
  unfold am_si at h
  split at h
  next x r =>
    split at h
    next hi =>
      cases h
      exact ⟨x, _, rfl, hi, rfl, rfl, rfl⟩
    next => cases h
  next => cases h
theorem am_sl_sp {pc pc' i : Nat} {ls ls' : am_L} {st st' : List Value} (h : am_sl ls i pc st = some (pc', ls', st')) : ∃ x r, st = .long x :: r ∧ i + 1 < ls.length ∧ pc' = pc ∧ ls' = am_st i (.long x) ls ∧ st' = r := by
  unfold am_sl at h
  split at h
  next x r =>
    split at h
    next hi =>
      cases h
      exact ⟨x, _, rfl, hi, rfl, rfl, rfl⟩
    next => cases h
  next => cases h
theorem am_sa_sp {pc pc' i : Nat} {ls ls' : am_L} {st st' : List Value} (h : am_sa ls i pc st = some (pc', ls', st')) : ∃ x r, st = .ref x :: r ∧ i < ls.length ∧ pc' = pc ∧ ls' = am_st i (.ref x) ls ∧ st' = r := by
  unfold am_sa at h
  split at h
  next x r =>
    split at h
    next hi =>
      cases h
      exact ⟨x, _, rfl, hi, rfl, rfl, rfl⟩
    next => cases h
  next => cases h
theorem am_tg_sp {pc t : Nat} {off : Int} (h : am_tg pc off = some t) : (pc : Int) + off = (t : Int) := by
  unfold am_tg at h
  split at h
  next h0 =>
    cases h
    exact (Int.toNat_of_nonneg h0).symm
  next => cases h
theorem am_jp_sp {pc pc' : Nat} {off : Int} {ls ls' : am_L} {st st' : List Value} (h : am_jp pc off ls st = some (pc', ls', st')) : (pc : Int) + off = (pc' : Int) ∧ ls' = ls ∧ st' = st := by
  unfold am_jp at h
  split at h
  next t ht =>
    cases h
    exact ⟨am_tg_sp ht, rfl, rfl⟩
  next => cases h
theorem am_ix_in {i : Int32} {n : Nat} (h : am_ix i n = true) : vp_in i n := by
  unfold am_ix at h
  exact (of_decide_eq_true h : ¬ (i < 0 ∨ n ≤ i.toNatClampNeg))
theorem am_tv_rf (ad : Nat → Nat) (r : Option Nat) : am_tv ad (va_rf r) = va_rf (r.map ad) := by cases r <;> rfl
theorem am_w_map (ad : Nat → Nat) (r : List Value) : ((r.map (am_tv ad)).map fun v => v.category).sum = am_w r := by
  unfold am_w
  rw [List.map_map]
  congr 1
  apply List.map_congr_left
  intro v _
  exact am_tv_cat ad v
