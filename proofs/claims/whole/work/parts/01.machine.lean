/-! An abstract machine: heap cells by their numbers, locals as a list, one method at a time; a call is a run of its own. -/
abbrev am_E : Type := (Nat × vp_A) ⊕ (Nat × List Value)
abbrev am_H : Type := List am_E
abbrev am_L : Type := List (Option Value)
abbrev am_M : Type := MethodName × ByteArray × Nat × Option FieldType × Nat × List (Option (Instr × Nat))
-- a field: kind (0 plain, 1 a nest mate's, 2 plain and final, 3 a nest mate's and final), number of its class, its slot, its type (0 int, 1 long, 2 a reference)
abbrev am_F : Type := Nat → Nat → Option (Nat × Nat × Nat × Nat)
-- a method: kind, its number, how many arguments, number of the receiver's class
abbrev am_Y : Type := Nat → Nat → Option (Nat × Nat × Nat × Nat)
-- methods; fields; method links; long constants; classes that are made; statics; the class whose arrays are made, and the classes' names
abbrev am_P : Type := List am_M × am_F × am_Y × (Nat → Nat → Option Int64) × (Nat → Nat → Option (Nat × List Value)) × (Nat → Nat → Option Nat) × Nat × (Nat → String)
abbrev am_X : Type := Nat → Nat × (Nat → Int32)
-- what an instruction comes to: the next place (no cell changed); the next place with a new heap; an answer or a call
abbrev am_R : Type := Nat × am_L × List Value
abbrev am_S : Type := Nat × am_L × List Value × am_H
abbrev am_T : Type := (Option Value) ⊕ (Nat × List Value × List Value)
def am_x0 : Nat := 1000000
def am_ld (l : am_L) (i : Nat) : Option Value := match l[i]? with
  | some (some v) => some v
  | _ => none
def am_cl : am_L → am_L
  | [] => []
  | _ :: t => none :: t
def am_kl (x : Option Value) : Option Value := match x with
  | some w => if w.category = 2 then none else some w
  | none => none
def am_st : Nat → Value → am_L → am_L
  | _, _, [] => []
  | 0, v, _ :: t => some v :: (if v.category = 2 then am_cl t else t)
  | 1, v, x :: t => am_kl x :: am_st 0 v t
  | i + 2, v, x :: t => x :: am_st (i + 1) v t
def am_en : List Value → am_L
  | [] => []
  | v :: vs => if v.category = 2 then some v :: none :: am_en vs else some v :: am_en vs
def am_pad (n : Nat) (l : am_L) : am_L := l ++ List.replicate (n - l.length) none
def am_nx (pc : Nat) (ls : am_L) (st : List Value) : Option am_R := some (pc, ls, st)
def am_nh (pc : Nat) (ls : am_L) (st : List Value) (h : am_H) : Option am_S := some (pc, ls, st, h)
def am_rt (r : Option Value) : Option am_T := some (.inl r)
def am_ca (j : Nat) (as st : List Value) : Option am_T := some (.inr (j, as, st))
def am_tg (pc : Nat) (off : Int) : Option Nat := if 0 ≤ (pc : Int) + off then some ((pc : Int) + off).toNat else none
def am_jp (pc : Nat) (off : Int) (ls : am_L) (st : List Value) : Option am_R := match am_tg pc off with
  | some t => am_nx t ls st
  | none => none
def am_c2 (c : ClassFile.Cond) (x y : Int32) : Bool := match c with
  | .eq => decide (x = y)
  | .ne => decide (¬ x = y)
  | .lt => decide (x < y)
  | .ge => decide (y ≤ x)
  | .gt => decide (y < x)
  | .le => decide (x ≤ y)
def am_li (ls : am_L) (i pc : Nat) (st : List Value) : Option am_R := match am_ld ls i with
  | some (.int x) => am_nx pc ls (.int x :: st)
  | _ => none
def am_ll (ls : am_L) (i pc : Nat) (st : List Value) : Option am_R := match am_ld ls i with
  | some (.long x) => am_nx pc ls (.long x :: st)
  | _ => none
def am_la (ls : am_L) (i pc : Nat) (st : List Value) : Option am_R := match am_ld ls i with
  | some (.ref x) => am_nx pc ls (.ref x :: st)
  | _ => none
def am_si (ls : am_L) (i pc : Nat) (st : List Value) : Option am_R := match st with
  | .int x :: r => if i < ls.length then am_nx pc (am_st i (.int x) ls) r else none
  | _ => none
def am_sl (ls : am_L) (i pc : Nat) (st : List Value) : Option am_R := match st with
  | .long x :: r => if i + 1 < ls.length then am_nx pc (am_st i (.long x) ls) r else none
  | _ => none
def am_sa (ls : am_L) (i pc : Nat) (st : List Value) : Option am_R := match st with
  | .ref x :: r => if i < ls.length then am_nx pc (am_st i (.ref x) ls) r else none
  | _ => none
def am_i2 (f : Int32 → Int32 → Option Int32) (pc : Nat) (ls : am_L) (st : List Value) : Option am_R := match st with
  | .int y :: .int x :: r => match f x y with
    | some z => am_nx pc ls (.int z :: r)
    | none => none
  | _ => none
def am_l2 (f : Int64 → Int64 → Option Int64) (pc : Nat) (ls : am_L) (st : List Value) : Option am_R := match st with
  | .long y :: .long x :: r => match f x y with
    | some z => am_nx pc ls (.long z :: r)
    | none => none
  | _ => none
-- closed: no reference to a cell from n on
def am_cv (n : Nat) (v : Value) : Bool := match v with
  | .ref k => decide (k < n) || decide (am_x0 ≤ k)
  | _ => true
def am_cs (n : Nat) (st : List Value) : Bool := st.all (am_cv n)
def am_co (n : Nat) (ls : am_L) : Bool := ls.all fun x => match x with
  | some v => am_cv n v
  | none => true
def am_ce (n : Nat) (e : am_E) : Bool := match e with
  | .inl (_, k, .inr (.inr (.inr (.inr f)))) => (List.range k).all fun j => match f j with
    | some a => decide (a < n)
    | none => true
  | .inl _ => true
  | .inr (_, fs) => am_cs n fs
def am_chk (ls : am_L) (st : List Value) (h : am_H) : Bool := am_co h.length ls && am_cs h.length st && h.all (am_ce h.length) && decide (h.length < 1000)
-- slots
def am_se (e : am_E) : Nat := match e with
  | .inl (_, n, _) => n
  | .inr (_, fs) => fs.length
def am_sz (h : am_H) : Nat := (h.map am_se).sum
def am_w (st : List Value) : Nat := (st.map fun v => v.category).sum
def am_get (F : am_F) (own : Nat) (k pc : Nat) (ls : am_L) (st : List Value) (h : am_H) : Option am_R := match st with
  | .ref a :: r => match F own k with
    | some (_, ci, i, _) => match h[a]? with
      | some (.inr (cj, fs)) => if cj = ci then match fs[i]? with
        | some v => am_nx pc ls (v :: r)
        | none => none
        else none
      | _ => none
    | none => none
  | _ => none
def am_vt (t : Nat) (v : Value) : Bool := match t, v with
  | 0, .int _ => true
  | 1, .long _ => true
  | 2, .ref _ => true
  | _, _ => false
def am_put (F : am_F) (own : Nat) (k pc : Nat) (ls : am_L) (st : List Value) (h : am_H) : Option am_S := match st with
  | v :: .ref a :: r => match F own k with
    | some (kd, ci, i, t) => match h[a]? with
      | some (.inr (cj, fs)) => if cj = ci ∧ i < fs.length ∧ am_vt t v = true ∧ kd < 3 then am_nh pc ls r (h.set a (.inr (cj, fs.set i v))) else none
      | _ => none
    | none => none
  | _ => none
def am_ix (i : Int32) (n : Nat) : Bool := decide (¬ (i < 0 ∨ n ≤ i.toNatClampNeg))
def am_iald (X : am_X) (pc : Nat) (ls : am_L) (st : List Value) (h : am_H) : Option am_R := match st with
  | .int i :: .ref a :: r => if am_x0 ≤ a then (if a < am_x0 + 3 ∧ am_ix i (X (a - am_x0)).1 = true then am_nx pc ls (.int ((X (a - am_x0)).2 i.toNatClampNeg) :: r) else none) else match h[a]? with
    | some (.inl (t, n, .inl f)) => if t = 0 ∧ am_ix i n = true then am_nx pc ls (.int (f i.toNatClampNeg) :: r) else none
    | _ => none
  | _ => none
def am_zald (pc : Nat) (ls : am_L) (st : List Value) (h : am_H) : Option am_R := match st with
  | .int i :: .ref a :: r => match h[a]? with
    | some (.inl (t, n, .inl f)) => if t = 2 ∧ am_ix i n = true then am_nx pc ls (.int (f i.toNatClampNeg) :: r) else none
    | _ => none
  | _ => none
def am_lald (pc : Nat) (ls : am_L) (st : List Value) (h : am_H) : Option am_R := match st with
  | .int i :: .ref a :: r => match h[a]? with
    | some (.inl (t, n, .inr (.inl f))) => if t = 1 ∧ am_ix i n = true then am_nx pc ls (.long (f i.toNatClampNeg) :: r) else none
    | _ => none
  | _ => none
def am_aald (pc : Nat) (ls : am_L) (st : List Value) (h : am_H) : Option am_R := match st with
  | .int i :: .ref a :: r => match h[a]? with
    | some (.inl (t, n, .inr (.inr (.inr (.inr f))))) => if (t = 3 ∨ t = 4) ∧ am_ix i n = true then am_nx pc ls (va_rf (f i.toNatClampNeg) :: r) else none
    | _ => none
  | _ => none
def am_iast (pc : Nat) (ls : am_L) (st : List Value) (h : am_H) : Option am_S := match st with
  | .int x :: .int i :: .ref a :: r => match h[a]? with
    | some (.inl (t, n, .inl f)) => if t = 0 ∧ am_ix i n = true then am_nh pc ls r (h.set a (.inl (t, n, .inl (upd f i.toNatClampNeg x)))) else none
    | _ => none
  | _ => none
def am_zast (pc : Nat) (ls : am_L) (st : List Value) (h : am_H) : Option am_S := match st with
  | .int x :: .int i :: .ref a :: r => match h[a]? with
    | some (.inl (t, n, .inl f)) => if t = 2 ∧ am_ix i n = true then am_nh pc ls r (h.set a (.inl (t, n, .inl (upd f i.toNatClampNeg (vp_nar .boolean x))))) else none
    | _ => none
  | _ => none
def am_last (pc : Nat) (ls : am_L) (st : List Value) (h : am_H) : Option am_S := match st with
  | .long x :: .int i :: .ref a :: r => match h[a]? with
    | some (.inl (t, n, .inr (.inl f))) => if t = 1 ∧ am_ix i n = true then am_nh pc ls r (h.set a (.inl (t, n, .inr (.inl (vp_updL f i.toNatClampNeg x))))) else none
    | _ => none
  | _ => none
def am_aast (ec pc : Nat) (ls : am_L) (st : List Value) (h : am_H) : Option am_S := match st with
  | .ref v :: .int i :: .ref a :: r => match h[a]? with
    | some (.inl (t, n, .inr (.inr (.inr (.inr f))))) => match h[v]? with
      | some (.inr (ci, _)) => if t = 4 ∧ ci = ec ∧ am_ix i n = true then am_nh pc ls r (h.set a (.inl (t, n, .inr (.inr (.inr (.inr (va_up f i.toNatClampNeg (some v)))))))) else none
      | some (.inl (u, _, .inr (.inl _))) => if t = 3 ∧ u = 1 ∧ am_ix i n = true then am_nh pc ls r (h.set a (.inl (t, n, .inr (.inr (.inr (.inr (va_up f i.toNatClampNeg (some v)))))))) else none
      | _ => none
    | _ => none
  | _ => none
def am_alen (X : am_X) (pc : Nat) (ls : am_L) (st : List Value) (h : am_H) : Option am_R := match st with
  | .ref a :: r => if am_x0 ≤ a then (if a < am_x0 + 3 then am_nx pc ls (.int (Int32.ofNat (X (a - am_x0)).1) :: r) else none) else match h[a]? with
    | some (.inl (t, n, _)) => if t < 5 then am_nx pc ls (.int (Int32.ofNat n) :: r) else none
    | _ => none
  | _ => none
def am_newa (ty : ArrayType) (pc : Nat) (ls : am_L) (st : List Value) (h : am_H) : Option am_S := match st with
  | .int n :: r => if ¬ n < 0 ∧ n.toNatClampNeg ≤ 1000 ∧ am_chk ls r h = true then (match ty with
    | .int => am_nh pc ls (.ref h.length :: r) (h ++ [.inl (0, n.toNatClampNeg, .inl (fun _ => 0))])
    | .long => am_nh pc ls (.ref h.length :: r) (h ++ [.inl (1, n.toNatClampNeg, .inr (.inl (fun _ => 0)))])
    | .boolean => am_nh pc ls (.ref h.length :: r) (h ++ [.inl (2, n.toNatClampNeg, .inl (fun _ => 0))])
    | _ => none) else none
  | _ => none
def am_newq (pc : Nat) (ls : am_L) (st : List Value) (h : am_H) : Option am_S := match st with
  | .int n :: r => if ¬ n < 0 ∧ n.toNatClampNeg ≤ 1000 ∧ am_chk ls r h = true then am_nh pc ls (.ref h.length :: r) (h ++ [.inl (4, n.toNatClampNeg, .inr (.inr (.inr (.inr (fun _ => none)))))]) else none
  | _ => none
def am_newm (pc : Nat) (ls : am_L) (st : List Value) (h : am_H) : Option am_S := match st with
  | .int k :: .int n :: r => if ¬ n < 0 ∧ n.toNatClampNeg ≤ 100 ∧ ¬ k < 0 ∧ k.toNatClampNeg ≤ 100 ∧ am_chk ls r h = true then
      am_nh pc ls (.ref h.length :: r) (h ++ .inl (3, n.toNatClampNeg, .inr (.inr (.inr (.inr (fun i => if i < n.toNatClampNeg then some (h.length + 1 + i) else none))))) :: List.replicate n.toNatClampNeg (.inl (1, k.toNatClampNeg, .inr (.inl (fun _ => 0))))) else none
  | _ => none
def am_new (N : Option (Nat × List Value)) (pc : Nat) (ls : am_L) (st : List Value) (h : am_H) : Option am_S := match N with
  | some (ci, fs) => if am_chk ls st h = true then am_nh pc ls (.ref h.length :: st) (h ++ [.inr (ci, fs)]) else none
  | none => none
-- calls; kinds: 0 static, 1 virtual, 2 a nest mate's private, 3 a constructor, 4 a nest mate's private constructor, 5 Object's constructor, 6 Math.min, 7 System.arraycopy over longs
def am_rc (h : am_H) (v : Value) (ci : Nat) : Bool := match v with
  | .ref a => match h[a]? with
    | some (.inr (cj, _)) => decide (cj = ci)
    | _ => false
  | _ => false
def am_min (y : Option (Nat × Nat × Nat × Nat)) (d pc : Nat) (ls : am_L) (st : List Value) : Option am_R := match y with
  | some (6, _, _, _) => match st with
    | .int y :: .int x :: r => if 0 < d ∧ am_w r ≤ 8 then am_nx (pc + 3) ls (.int (if y < x then y else x) :: r) else none
    | _ => none
  | _ => none
def am_oi (y : Option (Nat × Nat × Nat × Nat)) (d pc : Nat) (ls : am_L) (st : List Value) : Option am_R := match y with
  | some (5, _, _, _) => match st with
    | .ref _ :: r => if 0 < d ∧ am_w r ≤ 8 then am_nx (pc + 3) ls r else none
    | _ => none
  | _ => none
def am_cpy (y : Option (Nat × Nat × Nat × Nat)) (d pc : Nat) (ls : am_L) (st : List Value) (h : am_H) : Option am_S := match y with
  | some (7, _, _, _) => match st with
    | .int n :: .int dp :: .ref b :: .int sp :: .ref a :: r => match h[a]? with
      | some (.inl (1, n0, .inr (.inl f))) => match h[b]? with
        | some (.inl (1, n1, .inr (.inl g))) => if 0 < d ∧ am_w r ≤ 8 ∧ ¬ sp < 0 ∧ ¬ dp < 0 ∧ ¬ n < 0 ∧ sp.toNatClampNeg + n.toNatClampNeg ≤ n0 ∧ dp.toNatClampNeg + n.toNatClampNeg ≤ n1 then
            am_nh (pc + 3) ls r (h.set b (.inl (1, n1, .inr (.inl (va_cpy f g sp.toNatClampNeg dp.toNatClampNeg n.toNatClampNeg))))) else none
        | _ => none
      | _ => none
    | _ => none
  | _ => none
def am_cst (y : Option (Nat × Nat × Nat × Nat)) (st : List Value) : Option am_T := match y with
  | some (0, j, na, _) => if na ≤ st.length ∧ am_w (st.drop na) ≤ 8 then am_ca j (st.take na).reverse (st.drop na) else none
  | _ => none
-- a receiver: kinds a or b
def am_cvi (a b : Nat) (y : Option (Nat × Nat × Nat × Nat)) (st : List Value) (h : am_H) : Option am_T := match y with
  | some (kd, j, na, ci) => match st.drop na with
    | .ref o :: r => if (kd = a ∨ kd = b) ∧ am_w r ≤ 8 ∧ am_rc h (.ref o) ci = true then am_ca j (.ref o :: (st.take na).reverse) r else none
    | _ => none
  | none => none
def am_ret (t : Option FieldType) (st : List Value) : Option am_T := match t, st with
  | some .int, [.int v] => am_rt (some (.int v))
  | some .boolean, [.int v] => if v = 0 ∨ v = 1 then am_rt (some (.int v)) else none
  | _, _ => none
def am_lrt (t : Option FieldType) (st : List Value) : Option am_T := match t, st with
  | some .long, [.long v] => am_rt (some (.long v))
  | _, _ => none
def am_art (t : Option FieldType) (st : List Value) : Option am_T := match t, st with
  | some (.object _), [.ref a] => am_rt (some (.ref a))
  | _, _ => none
def am_vrt (t : Option FieldType) (st : List Value) : Option am_T := match t, st with
  | none, [] => am_rt none
  | _, _ => none
def am_exP (P : am_P) (X : am_X) (d : Nat) (M : am_M) (i : Instr) (pc : Nat) (ls : am_L) (st : List Value) (h : am_H) : Option am_R :=
  match i with
  | .iconst n => am_nx (pc + 1) ls (.int (Int32.ofInt n) :: st)
  | .bipush n => am_nx (pc + 2) ls (.int (Int8.ofInt n).toInt32 :: st)
  | .sipush n => am_nx (pc + 3) ls (.int (Int16.ofInt n).toInt32 :: st)
  | .lconst n => am_nx (pc + 1) ls (.long (Int64.ofNat (n : Nat)) :: st)
  | .ldc2_w k => match P.2.2.2.1 M.2.2.2.2.1 k with
    | some v => am_nx (pc + 3) ls (.long v :: st)
    | none => none
  | .iload k => am_li ls k (pc + 2) st
  | .iload_n k => am_li ls k (pc + 1) st
  | .lload k => am_ll ls k (pc + 2) st
  | .lload_n k => am_ll ls k (pc + 1) st
  | .aload k => am_la ls k (pc + 2) st
  | .aload_n k => am_la ls k (pc + 1) st
  | .istore k => am_si ls k (pc + 2) st
  | .istore_n k => am_si ls k (pc + 1) st
  | .lstore k => am_sl ls k (pc + 2) st
  | .lstore_n k => am_sl ls k (pc + 1) st
  | .astore k => am_sa ls k (pc + 2) st
  | .astore_n k => am_sa ls k (pc + 1) st
  | .iinc k n => match am_ld ls k with
    | some (.int x) => if k < ls.length then am_nx (pc + 3) (am_st k (.int (x + Int32.ofInt n)) ls) st else none
    | _ => none
  | .iadd => am_i2 (fun x y => some (x + y)) (pc + 1) ls st
  | .isub => am_i2 (fun x y => some (x - y)) (pc + 1) ls st
  | .imul => am_i2 (fun x y => some (x * y)) (pc + 1) ls st
  | .iand => am_i2 (fun x y => some (x &&& y)) (pc + 1) ls st
  | .idiv => am_i2 (fun x y => if y = 0 then none else some (x / y)) (pc + 1) ls st
  | .irem => am_i2 (fun x y => if y = 0 then none else some (x - x / y * y)) (pc + 1) ls st
  | .ladd => am_l2 (fun x y => some (x + y)) (pc + 1) ls st
  | .lsub => am_l2 (fun x y => some (x - y)) (pc + 1) ls st
  | .lmul => am_l2 (fun x y => some (x * y)) (pc + 1) ls st
  | .land => am_l2 (fun x y => some (x &&& y)) (pc + 1) ls st
  | .lrem => am_l2 (fun x y => if y = 0 then none else some (x - x / y * y)) (pc + 1) ls st
  | .ineg => match st with
    | .int x :: r => am_nx (pc + 1) ls (.int (-x) :: r)
    | _ => none
  | .i2l => match st with
    | .int x :: r => am_nx (pc + 1) ls (.long x.toInt64 :: r)
    | _ => none
  | .l2i => match st with
    | .long x :: r => am_nx (pc + 1) ls (.int x.toInt32 :: r)
    | _ => none
  | .lshr => match st with
    | .int y :: .long x :: r => am_nx (pc + 1) ls (.long (x >>> (y.toInt64 &&& 63)) :: r)
    | _ => none
  | .lcmp => match st with
    | .long y :: .long x :: r => am_nx (pc + 1) ls (.int (lg_cmp x y) :: r)
    | _ => none
  | .dup => match st with
    | v :: r => if v.category = 1 then am_nx (pc + 1) ls (v :: v :: r) else none
    | _ => none
  | .pop => match st with
    | v :: r => if v.category = 1 then am_nx (pc + 1) ls r else none
    | _ => none
  | .dup2 => match st with
    | v :: w :: r => if v.category = 1 ∧ w.category = 1 then am_nx (pc + 1) ls (v :: w :: v :: w :: r) else none
    | _ => none
  | .ifCond c off => match st with
    | .int x :: r => match am_tg pc off with
      | some t => if am_c2 c x 0 = true then am_nx t ls r else am_nx (pc + 3) ls r
      | none => none
    | _ => none
  | .if_icmp c off => match st with
    | .int y :: .int x :: r => match am_tg pc off with
      | some t => if am_c2 c x y = true then am_nx t ls r else am_nx (pc + 3) ls r
      | none => none
    | _ => none
  | .goto off => am_jp pc off ls st
  | .tableswitch dflt lo hi offs => match st with
    | .int x :: r => if x.toInt < lo ∨ hi < x.toInt then am_jp pc dflt ls r else match offs[(x.toInt - lo).toNat]? with
      | some off => am_jp pc off ls r
      | none => none
    | _ => none
  | .getfield k => am_get P.2.1 M.2.2.2.2.1 k (pc + 3) ls st h
  | .getstatic k => match P.2.2.2.2.2.1 M.2.2.2.2.1 k with
    | some x => if x < 3 then am_nx (pc + 3) ls (.ref (am_x0 + x) :: st) else none
    | none => none
  | .iaload => am_iald X (pc + 1) ls st h
  | .baload => am_zald (pc + 1) ls st h
  | .laload => am_lald (pc + 1) ls st h
  | .aaload => am_aald (pc + 1) ls st h
  | .arraylength => am_alen X (pc + 1) ls st h
  | .invokestatic k => am_min (P.2.2.1 M.2.2.2.2.1 k) d pc ls st
  | .invokespecial k => am_oi (P.2.2.1 M.2.2.2.2.1 k) d pc ls st
  | _ => none
def am_exH (P : am_P) (d : Nat) (M : am_M) (i : Instr) (pc : Nat) (ls : am_L) (st : List Value) (h : am_H) : Option am_S :=
  match i with
  | .putfield k => am_put P.2.1 M.2.2.2.2.1 k (pc + 3) ls st h
  | .iastore => am_iast (pc + 1) ls st h
  | .bastore => am_zast (pc + 1) ls st h
  | .lastore => am_last (pc + 1) ls st h
  | .aastore => am_aast P.2.2.2.2.2.2.1 (pc + 1) ls st h
  | .newarray ty => am_newa ty (pc + 2) ls st h
  | .anewarray k => match P.2.2.2.2.1 M.2.2.2.2.1 k with
    | some (ci, _) => if ci = P.2.2.2.2.2.2.1 then am_newq (pc + 3) ls st h else none
    | none => none
  | .multianewarray k 2 => if P.2.2.2.2.2.1 M.2.2.2.2.1 k = some 77 then am_newm (pc + 4) ls st h else none
  | .new k => am_new (P.2.2.2.2.1 M.2.2.2.2.1 k) (pc + 3) ls st h
  | .invokestatic k => am_cpy (P.2.2.1 M.2.2.2.2.1 k) d pc ls st h
  | _ => none
def am_exC (P : am_P) (M : am_M) (i : Instr) (st : List Value) (h : am_H) : Option am_T :=
  match i with
  | .ireturn => am_ret M.2.2.2.1 st
  | .lreturn => am_lrt M.2.2.2.1 st
  | .areturn => am_art M.2.2.2.1 st
  | .return_ => am_vrt M.2.2.2.1 st
  | .invokestatic k => am_cst (P.2.2.1 M.2.2.2.2.1 k) st
  | .invokevirtual k => am_cvi 1 2 (P.2.2.1 M.2.2.2.2.1 k) st h
  | .invokespecial k => am_cvi 3 4 (P.2.2.1 M.2.2.2.2.1 k) st h
  | _ => none
def am_run (P : am_P) (X : am_X) : Nat → Nat → Nat → Nat → am_L → List Value → am_H → Option (Option Value × am_H)
  | 0, _, _, _, _, _, _ => none
  | n + 1, d, j, pc, ls, st, h => match P.1[j]? with
    | none => none
    | some M => match M.2.2.2.2.2[pc]? with
      | some (some (i, _)) => match am_exP P X d M i pc ls st h with
        | some (pc', ls', st') => am_run P X n d j pc' ls' st' h
        | none => match am_exH P d M i pc ls st h with
          | some (pc', ls', st', h1) => if h.length ≤ h1.length ∧ am_sz h ≤ am_sz h1 then am_run P X n d j pc' ls' st' h1 else none
          | none => match am_exC P M i st h with
            | some (.inl r) => some (r, h)
            | some (.inr (j2, as, st')) => match d with
              | 0 => none
              | d1 + 1 => match P.1[j2]? with
                | none => none
                | some M2 => if (am_en as).length ≤ M2.2.2.1 then match am_run P X n d1 j2 0 (am_pad M2.2.2.1 (am_en as)) [] h with
                  | none => none
                  | some (r, h1) => if h1.length = h.length ∨ (am_co h.length ls && am_cs h.length st' && decide (h.length < 1000)) = true then am_run P X n (d1 + 1) j (pc + 3) ls (r.toList ++ st') h1 else none
                  else none
            | none => none
      | _ => none
def am_lo (i : Instr) (n : Nat) : Bool := match i with
  | .bipush _ | .iload _ | .lload _ | .aload _ | .istore _ | .lstore _ | .astore _ | .newarray _ => n == 2
  | .sipush _ | .ldc2_w _ | .iinc _ _ | .ifCond _ _ | .if_icmp _ _ | .goto _ | .getfield _ | .putfield _ | .getstatic _ | .new _ | .anewarray _ | .invokestatic _ | .invokevirtual _ | .invokespecial _ => n == 3
  | .multianewarray _ _ => n == 4
  | .tableswitch _ _ _ _ => true
  | _ => n == 1
