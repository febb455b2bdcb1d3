section
/-! ===== BEGIN words of one list among another's, by their places ===== -/
theorem goodIn_r {big : List Cond} (ws : List Cond) (ps : List Nat) (hp : ws = ps.filterMap (fun i => big[i]?)) (h : ws.all goodWord = true) : GoodIn big ws := by
  intro w hw
  have h1 := List.all_eq_true.mp h w hw
  rw [hp] at hw
  obtain ⟨i, -, hi⟩ := List.mem_filterMap.mp hw
  have hm : w ∈ big := by first | exact List.mem_of_getElem? hi | exact List.getElem?_mem hi
  exact ⟨hm, good_of_word h1⟩
theorem goodIn_app {big a b : List Cond} (ha : GoodIn big a) (hb : GoodIn big b) : GoodIn big (a ++ b) := fun w h => (List.mem_append.mp h).elim (ha w) (hb w)
theorem goodIn_ca {big a b : List Cond} {c : Cond} (ha : GoodIn big (c :: a)) (hb : GoodIn big b) : GoodIn big (c :: (a ++ b)) := fun w h => (List.mem_cons.mp h).elim (fun e => ha w (List.mem_cons.mpr (Or.inl e))) (fun h => (List.mem_append.mp h).elim (fun h => ha w (List.mem_cons.mpr (Or.inr h))) (hb w))
theorem goodIn_sub {big ws : List Cond} (hm : ∀ w ∈ ws, w ∈ big) (h : ws.all goodWord = true) : GoodIn big ws := fun w hw => ⟨hm w hw, good_of_word (List.all_eq_true.mp h w hw)⟩
/-! ===== END ===== -/

/-! ===== BEGIN new T[n][m]: the outer array a place, the inner ones among the pooled ===== -/
/-- f, but v at every address of l -/
def vr_up {α : Type} (f : Nat → α) (l : List Nat) (v : α) : Nat → α := fun a => if a ∈ l then v else f a
theorem vr_up_in {α : Type} {f : Nat → α} {l : List Nat} {v : α} {a : Nat} (h : a ∈ l) : vr_up f l v a = v := if_pos h
theorem vr_up_ne {α : Type} {f : Nat → α} {l : List Nat} {v : α} {a : Nat} (h : a ∉ l) : vr_up f l v a = f a := if_neg h
theorem vr_rows {L l : List Nat} {f : Nat → va_E} {e : va_E} (h : ∀ a, a ∈ l → a ∉ L) : va_pl L f ++ l.map (fun a => (a, e)) = va_pl (L ++ l) (vr_up f l e) := by
  unfold va_pl
  rw [List.map_append]
  congr 1
  · apply List.map_congr_left
    intro a ha
    rw [vr_up_ne (fun q => h a q ha)]
  · apply List.map_congr_left
    intro a ha
    rw [vr_up_in ha]
theorem vr_lay {X rows : va_W} {x : Nat × va_E} {pl : va_W} {D : va_G} {cl : List vw_C} {H : Heap} (hP : va_P D cl (((X ++ pl) ++ [x]) ++ rows) H) : va_P D cl ((X ++ [x]) ++ (pl ++ rows)) H := by
  rw [List.append_assoc (X ++ pl)] at hP
  have h := va_P.swap hP
  rw [← List.append_assoc X] at h
  have h2 := va_P.swap h
  rw [List.append_assoc (X ++ [x])] at h2
  exact h2
theorem vr_layD {X rows : va_W} {x : Nat × va_E} {pl : va_W} {A : Nat → Prop} (hD : va_D A (((X ++ pl) ++ [x]) ++ rows)) : va_D A ((X ++ [x]) ++ (pl ++ rows)) := by
  rw [List.append_assoc (X ++ pl)] at hD
  have h := va_D.swap hD
  rw [← List.append_assoc X] at h
  have h2 := va_D.swap h
  rw [List.append_assoc (X ++ [x])] at h2
  exact h2
theorem vr_outer (c : ClassId) (N h0 : Nat) : ∀ i : Nat, Jvm.Free.Multi.outerC c N h0 i = arrV c N (fun j => va_rf (if j < i then some (h0 + 1 + j) else none))
  | 0 => by
    show ({ cls := c, slots := Array.replicate N .null, vm := .none } : Cell) = _
    rw [arrV_new]
    refine congrArg (arrV c N) (funext fun j => ?_)
    simp [va_rf]
  | i + 1 => by
    show (Jvm.Free.Multi.outerC c N h0 i).setSlot i (.ref (h0 + 1 + i)) = _
    rw [vr_outer c N h0 i, arrV_store]
    refine congrArg (arrV c N) (funext fun j => ?_)
    by_cases e : j = i
    · subst e
      simp [updV, va_rf]
    · by_cases h : j < i
      · simp [updV, e, h, Nat.lt_succ_of_lt h]
      · simp [updV, e, h, show ¬ j < i + 1 by omega]
section VGM
variable {p : Program} {l : Launch} {e : Env} {R : Room} {s : State} {m : MethodId} {args : Array Value} {below : List Frame} {meth : Method} {c : Code} {H : Heap} {locs : List Loc} {cells slots : Nat} {Q : State → Prop}
variable {cc : ByteArray} {pc : Nat} {ls : Array Slot} {rest : List Value} {D : va_G} {cl : List vw_C} {A : Nat → Prop} {a : Nat} {tys : List (ClassId × FieldType)} {ws : va_W} {H0 : Heap}
theorem va_mna {X : va_W} {L : List Nat} {f : Nat → va_E} {cc : ByteArray} (hexec : p.tables.exec = Jvm.exec) (hb : c.code = cc) {own : String} {index : Nat} {ty : FieldType} {cy : ClassId} (hown : s.vm.findClass own = some m.cls) (hclink : (Cond.classLink own index ("[" ++ (FieldType.array ty).toString)).before args s = true) (hover : (Cond.arrayOver (.array ty)).before args s = true) (harr : (Cond.arrayClass ty).before args s = true) (hcy : s.vm.findClass (FieldType.array ty).toString = some cy)
    (hK : va_K D cl tys s) (hP : va_P D cl (X ++ va_pl L f) H) (hD : va_D A (X ++ va_pl L f)) (hS : va_S A H0 H locs) (hA : ∀ q, H0.size ≤ q → A q) {n k : Int32} {N' K' : Nat} {z : vp_A} (hn : ¬ n < 0) (hk : ¬ k < 0) (hN : n.toNatClampNeg = N') (hM : k.toNatClampNeg = K')
    (hb1 : N' * 4 ≤ 536870912) (hb2 : K' * componentBytes ty ≤ 536870912) (hb3 : K' ≤ 536870912) (hdf : fits ty (defaultValue ty) = true) (hdd : (defaultValue ty).isDefault = true) (hcells : cells + (1 + N') ≤ R.cells) (hslots : slots + (N' + N' * K') ≤ R.slots) (hz : ∀ c : ClassId, Jvm.Free.Multi.innerC c K' (defaultValue ty) = vp_cell c z) (hdg : decode cc pc = .ok (.multianewarray index 2, 4))
    (kk : ∀ (q : Nat) (r : Nat → Nat) (cA : ClassId) (H1 : Heap), (∀ i j : Nat, i < N' → j < N' → r i = r j → i = j) → (∀ i : Nat, i < N' → r i ∉ L) → va_K D cl (tys ++ [(cA, .array ty)]) s →
      va_P D cl ((X ++ [(q, .inl (cA, N', .inr (.inr (.inr (.inr (fun i => if i < N' then some (r i) else none))))))]) ++ va_pl (L ++ (List.range N').map r) (vr_up f ((List.range N').map r) (.inl (cy, z)))) H1 → va_D A ((X ++ [(q, .inl (cA, N', .inr (.inr (.inr (.inr (fun i => if i < N' then some (r i) else none))))))]) ++ va_pl (L ++ (List.range N').map r) (vr_up f ((List.range N').map r) (.inl (cy, z)))) → va_S A H0 H1 locs →
      W p l e R s m args below meth c H1 locs (cells + 1 + N') (slots + N' + N' * K') Q (F0 m (pc + 4) ls (.ref q :: rest))) : W p l e R s m args below meth c H locs cells slots Q (F0 m pc ls (.int k :: .int n :: rest)) := by
  subst hN
  subst hM
  intro T hT Xs
  obtain ⟨vm₁, cA, comp, -, fA, fC, hO, -, X', step⟩ := Xs.multianewarray2F hexec hown hclink hover harr (g := F0 m pc ls (.int k :: .int n :: rest)) rfl (by rw [hb]; exact hdg) rfl hn hk hb1 hb2 hb3 hdf hdd hcells hslots
  have ec : some cy = some comp := hcy.symm.trans fC
  cases ec
  generalize hF : Jvm.Free.Multi.fill (T.setVm vm₁) cA cy n.toNatClampNeg k.toNatClampNeg (defaultValue ty) n.toNatClampNeg = F at X' step
  have hTh : (T.setVm vm₁).heap = H := hT
  obtain ⟨f1, f2, -, -⟩ := Jvm.Free.Multi.fill_facts (T.setVm vm₁) cA cy n.toNatClampNeg k.toNatClampNeg (defaultValue ty) n.toNatClampNeg
  rw [hF, hTh] at f1 f2
  have hold : ∀ x : Nat, x < H.size → F.heap[x]? = H[x]? := fun x hx => by
    have := Jvm.Free.Multi.fill_old (T.setVm vm₁) cA cy n.toNatClampNeg k.toNatClampNeg (defaultValue ty) (a := x) (by rw [hTh]; exact hx) n.toNatClampNeg
    rw [hF, hTh] at this
    exact this
  have hrow : ∀ j : Nat, j < n.toNatClampNeg → F.heap[H.size + 1 + j]? = some (vp_cell cy z) := fun j hj => by
    have := Jvm.Free.Multi.fill_inner (T.setVm vm₁) cA cy n.toNatClampNeg k.toNatClampNeg (defaultValue ty) n.toNatClampNeg j hj
    rw [hF, hTh, hz] at this
    exact this
  have hout : Jvm.Free.Multi.outerC cA n.toNatClampNeg H.size n.toNatClampNeg = vp_cell cA (n.toNatClampNeg, .inr (.inr (.inr (.inr (fun i => if i < n.toNatClampNeg then some (H.size + 1 + i) else none))))) := by
    rw [vp_cell_q]
    exact vr_outer cA n.toNatClampNeg H.size n.toNatClampNeg
  rw [hout] at f2
  have hlt : ∀ a, a ∈ L → a < H.size := fun a ha => by
    obtain ⟨k9, hk9⟩ := va_pl_get (X := X) (f := f) ha
    exact (hP k9 _ hk9).lt
  have hnl : ∀ i : Nat, i < n.toNatClampNeg → H.size + 1 + i ∉ L := fun i _ h => by
    have := hlt _ h
    omega
  have hnm : ∀ a, a ∈ (List.range n.toNatClampNeg).map (fun i => H.size + 1 + i) → a ∉ L := fun a ha h => by
    obtain ⟨i, -, rfl⟩ := List.mem_map.mp ha
    have := hlt _ h
    omega
  have hP0 : va_P D cl (X ++ va_pl L f) F.heap := hP.kept (fun k9 x hx => hold x.1 ((hP k9 x hx).lt))
  have hP1 : va_P D cl ((X ++ va_pl L f) ++ [(H.size, .inl (cA, n.toNatClampNeg, .inr (.inr (.inr (.inr (fun i => if i < n.toNatClampNeg then some (H.size + 1 + i) else none))))))]) F.heap := hP0.app (fun k9 x hx => by
    have h0 : k9 < 1 := (List.getElem?_eq_some_iff.mp hx).1
    rw [show k9 = 0 by omega] at hx
    cases hx
    exact f2)
  have hP2 : va_P D cl (((X ++ va_pl L f) ++ [(H.size, .inl (cA, n.toNatClampNeg, .inr (.inr (.inr (.inr (fun i => if i < n.toNatClampNeg then some (H.size + 1 + i) else none))))))]) ++ ((List.range n.toNatClampNeg).map (fun i => H.size + 1 + i)).map (fun a => (a, .inl (cy, z)))) F.heap := hP1.app (fun k9 x hx => by
    obtain ⟨a, ha, rfl⟩ := List.mem_map.mp (List.mem_of_getElem? hx)
    obtain ⟨i, hi, rfl⟩ := List.mem_map.mp ha
    exact hrow i (List.mem_range.mp hi))
  have hD2 : va_D A (((X ++ va_pl L f) ++ [(H.size, .inl (cA, n.toNatClampNeg, .inr (.inr (.inr (.inr (fun i => if i < n.toNatClampNeg then some (H.size + 1 + i) else none))))))]) ++ ((List.range n.toNatClampNeg).map (fun i => H.size + 1 + i)).map (fun a => (a, .inl (cy, z)))) := by
    have hD1 := hD.push (e := .inl (cA, n.toNatClampNeg, .inr (.inr (.inr (.inr (fun i => if i < n.toNatClampNeg then some (H.size + 1 + i) else none)))))) hP rfl (hA _ hS.1)
    generalize hW1 : (X ++ va_pl L f) ++ [(H.size, .inl (cA, n.toNatClampNeg, .inr (.inr (.inr (.inr (fun i => if i < n.toNatClampNeg then some (H.size + 1 + i) else none))))))] = W1 at hD1 hP1 ⊢
    have hle : ∀ (k9 : Nat) (x : Nat × va_E), W1[k9]? = some x → x.1 ≤ H.size := fun k9 x hx => by
      rw [← hW1] at hx
      by_cases hl : k9 < (X ++ va_pl L f).length
      · rw [List.getElem?_append_left hl] at hx
        exact Nat.le_of_lt ((hP k9 x hx).lt)
      · rw [List.getElem?_append_right (by omega)] at hx
        have h0 : k9 - (X ++ va_pl L f).length < 1 := (List.getElem?_eq_some_iff.mp hx).1
        rw [show k9 - (X ++ va_pl L f).length = 0 by omega] at hx
        cases hx
        exact Nat.le_refl _
    have hr : ∀ (k9 : Nat) (x : Nat × va_E), (((List.range n.toNatClampNeg).map (fun i => H.size + 1 + i)).map (fun a => ((a, .inl (cy, z)) : Nat × va_E)))[k9]? = some x → x.1 = H.size + 1 + k9 := fun k9 x hx => by
      rw [List.getElem?_map, List.getElem?_map] at hx
      by_cases h9 : k9 < n.toNatClampNeg
      · rw [List.getElem?_range h9] at hx
        cases hx
        rfl
      · have hn0 : (List.range n.toNatClampNeg)[k9]? = none := List.getElem?_eq_none (by rw [List.length_range]; omega)
        rw [hn0] at hx
        cases hx
    refine ⟨fun i j x y hi hj hxy => ?_, fun k9 x hx => ?_⟩
    · by_cases h1 : i < W1.length <;> by_cases h2 : j < W1.length
      · rw [List.getElem?_append_left h1] at hi
        rw [List.getElem?_append_left h2] at hj
        exact hD1.1 i j x y hi hj hxy
      · rw [List.getElem?_append_left h1] at hi
        rw [List.getElem?_append_right (by omega)] at hj
        have := hle _ _ hi
        have := hr _ _ hj
        omega
      · rw [List.getElem?_append_right (by omega)] at hi
        rw [List.getElem?_append_left h2] at hj
        have := hle _ _ hj
        have := hr _ _ hi
        omega
      · rw [List.getElem?_append_right (by omega)] at hi hj
        have := hr _ _ hi
        have := hr _ _ hj
        omega
    · by_cases h1 : k9 < W1.length
      · rw [List.getElem?_append_left h1] at hx
        exact hD1.2 k9 x hx
      · rw [List.getElem?_append_right (by omega)] at hx
        have := hr _ _ hx
        exact hA _ (by have := hS.1; omega)
  have hAr : ArrOfT s cA (.array ty) := fun N9 z9 => by
    obtain ⟨-, k9, hk9, cm9, hkk9⟩ := (hO 0 0 0).1
    exact ⟨(fun q hq => by cases hq), k9, hk9, cm9, hkk9⟩
  have hK2 : va_K D cl (tys ++ [(cA, .array ty)]) s := ⟨hK.1, fun k9 x hx => by
    by_cases hl : k9 < tys.length
    · rw [List.getElem?_append_left hl] at hx
      exact hK.2 k9 x hx
    · rw [List.getElem?_append_right (by omega)] at hx
      have h0 : k9 - tys.length < 1 := (List.getElem?_eq_some_iff.mp hx).1
      rw [show k9 - tys.length = 0 by omega] at hx
      cases hx
      exact ⟨hAr, fA⟩⟩
  obtain ⟨t, a1, b1⟩ := kk H.size (fun i => H.size + 1 + i) cA F.heap (fun i j _ _ h => by have h9 : H.size + 1 + i = H.size + 1 + j := h; omega) hnl hK2 (by rw [← vr_rows hnm]; exact vr_lay hP2) (by rw [← vr_rows hnm]; exact vr_layD hD2) ⟨by rw [f1]; have := hS.1; omega, fun x h1 h2 => (hold x (Nat.lt_of_lt_of_le h1 hS.1)).trans (hS.2.1 x h1 h2), hS.2.2⟩ F rfl X'
  refine ⟨t, step t ?_, b1⟩
  have e : T.heap.size = H.size := by rw [hT]
  rw [e]
  exact a1
end VGM
/-! ===== END ===== -/

-- ===== PART A: goes FIRST, ahead of the names: the tables' words, and 'selects' of the private methods out of them =====
/-- a private method of a class that the tables say can be made, by its rows of tables_1 -/
def lw_okq (q : MethodName × Nat) : Prop := (q.1.cls ≠ "java/lang/invoke/MethodHandle" ∧ q.1.cls ≠ "java/lang/invoke/VarHandle") ∧ Cond.instantiable q.1.cls q.2 ∈ tables_1 ∧ Cond.privateMethod q.1 ∈ tables_1 ∧ Cond.instanceMethod q.1 ∈ tables_1
theorem lw_p0 : lw_okq (⟨"SampledBanks$Records", "copyRecord", "(LSampledBanks$Records;II)V"⟩, 4) := ⟨⟨by decide +kernel, by decide +kernel⟩, List.mem_of_getElem? (i := 21) (by decide +kernel), List.mem_of_getElem? (i := 162) (by decide +kernel), List.mem_of_getElem? (i := 163) (by decide +kernel)⟩
theorem lw_p1 : lw_okq (⟨"SampledBanks", "runExchange", "(LSampledBanks$Records;LSampledBanks$Records;I)I"⟩, 5) := ⟨⟨by decide +kernel, by decide +kernel⟩, List.mem_of_getElem? (i := 12) (by decide +kernel), List.mem_of_getElem? (i := 209) (by decide +kernel), List.mem_of_getElem? (i := 210) (by decide +kernel)⟩
theorem lw_p2 : lw_okq (⟨"SampledBanks$Fraction", "takeSamples", "(LSampledBanks$Records;LSampledBanks$Records;I)V"⟩, 7) := ⟨⟨by decide +kernel, by decide +kernel⟩, List.mem_of_getElem? (i := 47) (by decide +kernel), List.mem_of_getElem? (i := 217) (by decide +kernel), List.mem_of_getElem? (i := 218) (by decide +kernel)⟩
theorem lw_p3 : lw_okq (⟨"SampledBanks$Equations", "rowWithout0", "(II)I"⟩, 3) := ⟨⟨by decide +kernel, by decide +kernel⟩, List.mem_of_getElem? (i := 70) (by decide +kernel), List.mem_of_getElem? (i := 241) (by decide +kernel), List.mem_of_getElem? (i := 242) (by decide +kernel)⟩
theorem lw_p4 : lw_okq (⟨"SampledBanks$Equations", "swapRows", "(II)V"⟩, 3) := ⟨⟨by decide +kernel, by decide +kernel⟩, List.mem_of_getElem? (i := 70) (by decide +kernel), List.mem_of_getElem? (i := 245) (by decide +kernel), List.mem_of_getElem? (i := 246) (by decide +kernel)⟩
theorem lw_p5 : lw_okq (⟨"SampledBanks$Equations", "scaleRow", "(IIJ)V"⟩, 3) := ⟨⟨by decide +kernel, by decide +kernel⟩, List.mem_of_getElem? (i := 70) (by decide +kernel), List.mem_of_getElem? (i := 253) (by decide +kernel), List.mem_of_getElem? (i := 254) (by decide +kernel)⟩
theorem lw_p6 : lw_okq (⟨"SampledBanks$Equations", "clearColumn", "(II)V"⟩, 3) := ⟨⟨by decide +kernel, by decide +kernel⟩, List.mem_of_getElem? (i := 70) (by decide +kernel), List.mem_of_getElem? (i := 257) (by decide +kernel), List.mem_of_getElem? (i := 258) (by decide +kernel)⟩
theorem lw_p7 : lw_okq (⟨"SampledBanks$Equations", "rightSidesAre0", "(I)Z"⟩, 3) := ⟨⟨by decide +kernel, by decide +kernel⟩, List.mem_of_getElem? (i := 70) (by decide +kernel), List.mem_of_getElem? (i := 261) (by decide +kernel), List.mem_of_getElem? (i := 262) (by decide +kernel)⟩
theorem lw_p8 : lw_okq (⟨"SampledBanks$Polynomial", "divideInPlace", "(LSampledBanks$Polynomial;)V"⟩, 2) := ⟨⟨by decide +kernel, by decide +kernel⟩, List.mem_of_getElem? (i := 53) (by decide +kernel), List.mem_of_getElem? (i := 294) (by decide +kernel), List.mem_of_getElem? (i := 295) (by decide +kernel)⟩
theorem lw_p9 : lw_okq (⟨"SampledBanks", "deliverParcels", "(LSampledBanks$Records;LSampledBanks$Records;)I"⟩, 5) := ⟨⟨by decide +kernel, by decide +kernel⟩, List.mem_of_getElem? (i := 12) (by decide +kernel), List.mem_of_getElem? (i := 321) (by decide +kernel), List.mem_of_getElem? (i := 322) (by decide +kernel)⟩
theorem lw_p10 : lw_okq (⟨"SampledBanks", "runListing", "(LSampledBanks$Records;LSampledBanks$Records;)I"⟩, 5) := ⟨⟨by decide +kernel, by decide +kernel⟩, List.mem_of_getElem? (i := 12) (by decide +kernel), List.mem_of_getElem? (i := 342) (by decide +kernel), List.mem_of_getElem? (i := 343) (by decide +kernel)⟩
theorem lw_p11 : lw_okq (⟨"SampledBanks", "runSettling", "(LSampledBanks$Records;LSampledBanks$Records;I)I"⟩, 5) := ⟨⟨by decide +kernel, by decide +kernel⟩, List.mem_of_getElem? (i := 12) (by decide +kernel), List.mem_of_getElem? (i := 354) (by decide +kernel), List.mem_of_getElem? (i := 355) (by decide +kernel)⟩
theorem lw_p12 : lw_okq (⟨"SampledBanksModel", "find", "(II)I"⟩, 27) := ⟨⟨by decide +kernel, by decide +kernel⟩, List.mem_of_getElem? (i := 394) (by decide +kernel), List.mem_of_getElem? (i := 492) (by decide +kernel), List.mem_of_getElem? (i := 493) (by decide +kernel)⟩
theorem lw_p13 : lw_okq (⟨"SampledBanksModel", "insert", "(II)I"⟩, 27) := ⟨⟨by decide +kernel, by decide +kernel⟩, List.mem_of_getElem? (i := 394) (by decide +kernel), List.mem_of_getElem? (i := 496) (by decide +kernel), List.mem_of_getElem? (i := 497) (by decide +kernel)⟩
theorem lw_p14 : lw_okq (⟨"SampledBanksModel", "wordAt", "(I)I"⟩, 27) := ⟨⟨by decide +kernel, by decide +kernel⟩, List.mem_of_getElem? (i := 394) (by decide +kernel), List.mem_of_getElem? (i := 520) (by decide +kernel), List.mem_of_getElem? (i := 521) (by decide +kernel)⟩
theorem lw_p15 : lw_okq (⟨"SampledBanksModel", "sampleOf", "(II)J"⟩, 27) := ⟨⟨by decide +kernel, by decide +kernel⟩, List.mem_of_getElem? (i := 394) (by decide +kernel), List.mem_of_getElem? (i := 528) (by decide +kernel), List.mem_of_getElem? (i := 529) (by decide +kernel)⟩
def lw_privs_1 : List (MethodName × Nat) := [(⟨"SampledBanks$Records", "copyRecord", "(LSampledBanks$Records;II)V"⟩, 4), (⟨"SampledBanks", "runExchange", "(LSampledBanks$Records;LSampledBanks$Records;I)I"⟩, 5), (⟨"SampledBanks$Fraction", "takeSamples", "(LSampledBanks$Records;LSampledBanks$Records;I)V"⟩, 7), (⟨"SampledBanks$Equations", "rowWithout0", "(II)I"⟩, 3), (⟨"SampledBanks$Equations", "swapRows", "(II)V"⟩, 3), (⟨"SampledBanks$Equations", "scaleRow", "(IIJ)V"⟩, 3), (⟨"SampledBanks$Equations", "clearColumn", "(II)V"⟩, 3), (⟨"SampledBanks$Equations", "rightSidesAre0", "(I)Z"⟩, 3), (⟨"SampledBanks$Polynomial", "divideInPlace", "(LSampledBanks$Polynomial;)V"⟩, 2), (⟨"SampledBanks", "deliverParcels", "(LSampledBanks$Records;LSampledBanks$Records;)I"⟩, 5), (⟨"SampledBanks", "runListing", "(LSampledBanks$Records;LSampledBanks$Records;)I"⟩, 5), (⟨"SampledBanks", "runSettling", "(LSampledBanks$Records;LSampledBanks$Records;I)I"⟩, 5), (⟨"SampledBanksModel", "find", "(II)I"⟩, 27), (⟨"SampledBanksModel", "insert", "(II)I"⟩, 27), (⟨"SampledBanksModel", "wordAt", "(I)I"⟩, 27), (⟨"SampledBanksModel", "sampleOf", "(II)J"⟩, 27)]
theorem lw_r1 : ∀ q ∈ lw_privs_1, lw_okq q := List.forall_mem_cons.mpr ⟨lw_p0, List.forall_mem_cons.mpr ⟨lw_p1, List.forall_mem_cons.mpr ⟨lw_p2, List.forall_mem_cons.mpr ⟨lw_p3, List.forall_mem_cons.mpr ⟨lw_p4, List.forall_mem_cons.mpr ⟨lw_p5, List.forall_mem_cons.mpr ⟨lw_p6, List.forall_mem_cons.mpr ⟨lw_p7, List.forall_mem_cons.mpr ⟨lw_p8, List.forall_mem_cons.mpr ⟨lw_p9, List.forall_mem_cons.mpr ⟨lw_p10, List.forall_mem_cons.mpr ⟨lw_p11, List.forall_mem_cons.mpr ⟨lw_p12, List.forall_mem_cons.mpr ⟨lw_p13, List.forall_mem_cons.mpr ⟨lw_p14, List.forall_mem_cons.mpr ⟨lw_p15, fun _ h => absurd h List.not_mem_nil⟩⟩⟩⟩⟩⟩⟩⟩⟩⟩⟩⟩⟩⟩⟩⟩
theorem lw_p16 : lw_okq (⟨"SampledBanksModel", "exchanged", "(III)I"⟩, 27) := ⟨⟨by decide +kernel, by decide +kernel⟩, List.mem_of_getElem? (i := 394) (by decide +kernel), List.mem_of_getElem? (i := 550) (by decide +kernel), List.mem_of_getElem? (i := 551) (by decide +kernel)⟩
theorem lw_p17 : lw_okq (⟨"SampledBanksModel", "solved", "(III)Z"⟩, 27) := ⟨⟨by decide +kernel, by decide +kernel⟩, List.mem_of_getElem? (i := 394) (by decide +kernel), List.mem_of_getElem? (i := 554) (by decide +kernel), List.mem_of_getElem? (i := 555) (by decide +kernel)⟩
theorem lw_p18 : lw_okq (⟨"SampledBanksModel", "allPairs", "()V"⟩, 27) := ⟨⟨by decide +kernel, by decide +kernel⟩, List.mem_of_getElem? (i := 394) (by decide +kernel), List.mem_of_getElem? (i := 558) (by decide +kernel), List.mem_of_getElem? (i := 559) (by decide +kernel)⟩
theorem lw_p19 : lw_okq (⟨"SampledBanksModel", "sift", "(JJJ)V"⟩, 27) := ⟨⟨by decide +kernel, by decide +kernel⟩, List.mem_of_getElem? (i := 394) (by decide +kernel), List.mem_of_getElem? (i := 562) (by decide +kernel), List.mem_of_getElem? (i := 563) (by decide +kernel)⟩
theorem lw_p20 : lw_okq (⟨"SampledBanksModel", "valueOf", "(IIJ)J"⟩, 27) := ⟨⟨by decide +kernel, by decide +kernel⟩, List.mem_of_getElem? (i := 394) (by decide +kernel), List.mem_of_getElem? (i := 566) (by decide +kernel), List.mem_of_getElem? (i := 567) (by decide +kernel)⟩
theorem lw_p21 : lw_okq (⟨"SampledBanksModel", "take", "(IIJ)V"⟩, 27) := ⟨⟨by decide +kernel, by decide +kernel⟩, List.mem_of_getElem? (i := 394) (by decide +kernel), List.mem_of_getElem? (i := 576) (by decide +kernel), List.mem_of_getElem? (i := 577) (by decide +kernel)⟩
theorem lw_p22 : lw_okq (⟨"SampledBanksModel", "removePair", "(I)V"⟩, 27) := ⟨⟨by decide +kernel, by decide +kernel⟩, List.mem_of_getElem? (i := 394) (by decide +kernel), List.mem_of_getElem? (i := 580) (by decide +kernel), List.mem_of_getElem? (i := 581) (by decide +kernel)⟩
theorem lw_p23 : lw_okq (⟨"SampledBanksModel", "choose", "()Z"⟩, 27) := ⟨⟨by decide +kernel, by decide +kernel⟩, List.mem_of_getElem? (i := 394) (by decide +kernel), List.mem_of_getElem? (i := 584) (by decide +kernel), List.mem_of_getElem? (i := 585) (by decide +kernel)⟩
theorem lw_p24 : lw_okq (⟨"SampledBanksModel", "lead", "(I)I"⟩, 27) := ⟨⟨by decide +kernel, by decide +kernel⟩, List.mem_of_getElem? (i := 394) (by decide +kernel), List.mem_of_getElem? (i := 588) (by decide +kernel), List.mem_of_getElem? (i := 589) (by decide +kernel)⟩
theorem lw_p25 : lw_okq (⟨"SampledBanksModel", "scale", "(IJ)V"⟩, 27) := ⟨⟨by decide +kernel, by decide +kernel⟩, List.mem_of_getElem? (i := 394) (by decide +kernel), List.mem_of_getElem? (i := 592) (by decide +kernel), List.mem_of_getElem? (i := 593) (by decide +kernel)⟩
theorem lw_p26 : lw_okq (⟨"SampledBanksModel", "cancel", "()V"⟩, 27) := ⟨⟨by decide +kernel, by decide +kernel⟩, List.mem_of_getElem? (i := 394) (by decide +kernel), List.mem_of_getElem? (i := 596) (by decide +kernel), List.mem_of_getElem? (i := 597) (by decide +kernel)⟩
theorem lw_p27 : lw_okq (⟨"SampledBanksModel", "commonDivisor", "()V"⟩, 27) := ⟨⟨by decide +kernel, by decide +kernel⟩, List.mem_of_getElem? (i := 394) (by decide +kernel), List.mem_of_getElem? (i := 600) (by decide +kernel), List.mem_of_getElem? (i := 601) (by decide +kernel)⟩
theorem lw_p28 : lw_okq (⟨"SampledBanksModel", "divide", "(I)V"⟩, 27) := ⟨⟨by decide +kernel, by decide +kernel⟩, List.mem_of_getElem? (i := 394) (by decide +kernel), List.mem_of_getElem? (i := 604) (by decide +kernel), List.mem_of_getElem? (i := 605) (by decide +kernel)⟩
theorem lw_p29 : lw_okq (⟨"SampledBanksModel", "left", "()I"⟩, 27) := ⟨⟨by decide +kernel, by decide +kernel⟩, List.mem_of_getElem? (i := 394) (by decide +kernel), List.mem_of_getElem? (i := 608) (by decide +kernel), List.mem_of_getElem? (i := 609) (by decide +kernel)⟩
theorem lw_p30 : lw_okq (⟨"SampledBanksModel", "makePlain", "()V"⟩, 27) := ⟨⟨by decide +kernel, by decide +kernel⟩, List.mem_of_getElem? (i := 394) (by decide +kernel), List.mem_of_getElem? (i := 612) (by decide +kernel), List.mem_of_getElem? (i := 613) (by decide +kernel)⟩
theorem lw_p31 : lw_okq (⟨"SampledBanksModel", "checked", "(III)Z"⟩, 27) := ⟨⟨by decide +kernel, by decide +kernel⟩, List.mem_of_getElem? (i := 394) (by decide +kernel), List.mem_of_getElem? (i := 616) (by decide +kernel), List.mem_of_getElem? (i := 617) (by decide +kernel)⟩
def lw_privs_2 : List (MethodName × Nat) := [(⟨"SampledBanksModel", "exchanged", "(III)I"⟩, 27), (⟨"SampledBanksModel", "solved", "(III)Z"⟩, 27), (⟨"SampledBanksModel", "allPairs", "()V"⟩, 27), (⟨"SampledBanksModel", "sift", "(JJJ)V"⟩, 27), (⟨"SampledBanksModel", "valueOf", "(IIJ)J"⟩, 27), (⟨"SampledBanksModel", "take", "(IIJ)V"⟩, 27), (⟨"SampledBanksModel", "removePair", "(I)V"⟩, 27), (⟨"SampledBanksModel", "choose", "()Z"⟩, 27), (⟨"SampledBanksModel", "lead", "(I)I"⟩, 27), (⟨"SampledBanksModel", "scale", "(IJ)V"⟩, 27), (⟨"SampledBanksModel", "cancel", "()V"⟩, 27), (⟨"SampledBanksModel", "commonDivisor", "()V"⟩, 27), (⟨"SampledBanksModel", "divide", "(I)V"⟩, 27), (⟨"SampledBanksModel", "left", "()I"⟩, 27), (⟨"SampledBanksModel", "makePlain", "()V"⟩, 27), (⟨"SampledBanksModel", "checked", "(III)Z"⟩, 27)]
theorem lw_r2 : ∀ q ∈ lw_privs_2, lw_okq q := List.forall_mem_cons.mpr ⟨lw_p16, List.forall_mem_cons.mpr ⟨lw_p17, List.forall_mem_cons.mpr ⟨lw_p18, List.forall_mem_cons.mpr ⟨lw_p19, List.forall_mem_cons.mpr ⟨lw_p20, List.forall_mem_cons.mpr ⟨lw_p21, List.forall_mem_cons.mpr ⟨lw_p22, List.forall_mem_cons.mpr ⟨lw_p23, List.forall_mem_cons.mpr ⟨lw_p24, List.forall_mem_cons.mpr ⟨lw_p25, List.forall_mem_cons.mpr ⟨lw_p26, List.forall_mem_cons.mpr ⟨lw_p27, List.forall_mem_cons.mpr ⟨lw_p28, List.forall_mem_cons.mpr ⟨lw_p29, List.forall_mem_cons.mpr ⟨lw_p30, List.forall_mem_cons.mpr ⟨lw_p31, fun _ h => absurd h List.not_mem_nil⟩⟩⟩⟩⟩⟩⟩⟩⟩⟩⟩⟩⟩⟩⟩⟩
theorem lw_p32 : lw_okq (⟨"SampledBanksModel", "upAt", "(J)J"⟩, 27) := ⟨⟨by decide +kernel, by decide +kernel⟩, List.mem_of_getElem? (i := 394) (by decide +kernel), List.mem_of_getElem? (i := 620) (by decide +kernel), List.mem_of_getElem? (i := 621) (by decide +kernel)⟩
theorem lw_p33 : lw_okq (⟨"SampledBanksModel", "lowAt", "(J)J"⟩, 27) := ⟨⟨by decide +kernel, by decide +kernel⟩, List.mem_of_getElem? (i := 394) (by decide +kernel), List.mem_of_getElem? (i := 624) (by decide +kernel), List.mem_of_getElem? (i := 625) (by decide +kernel)⟩
theorem lw_p34 : lw_okq (⟨"SampledBanksModel", "offer", "(II)Z"⟩, 27) := ⟨⟨by decide +kernel, by decide +kernel⟩, List.mem_of_getElem? (i := 394) (by decide +kernel), List.mem_of_getElem? (i := 628) (by decide +kernel), List.mem_of_getElem? (i := 629) (by decide +kernel)⟩
theorem lw_p35 : lw_okq (⟨"SampledBanksModel", "note", "(II)V"⟩, 27) := ⟨⟨by decide +kernel, by decide +kernel⟩, List.mem_of_getElem? (i := 394) (by decide +kernel), List.mem_of_getElem? (i := 632) (by decide +kernel), List.mem_of_getElem? (i := 633) (by decide +kernel)⟩
theorem lw_p36 : lw_okq (⟨"SampledBanksModel", "takeOver", "()I"⟩, 27) := ⟨⟨by decide +kernel, by decide +kernel⟩, List.mem_of_getElem? (i := 394) (by decide +kernel), List.mem_of_getElem? (i := 636) (by decide +kernel), List.mem_of_getElem? (i := 637) (by decide +kernel)⟩
theorem lw_p37 : lw_okq (⟨"SampledBanksModel", "listed", "(II)I"⟩, 27) := ⟨⟨by decide +kernel, by decide +kernel⟩, List.mem_of_getElem? (i := 394) (by decide +kernel), List.mem_of_getElem? (i := 645) (by decide +kernel), List.mem_of_getElem? (i := 646) (by decide +kernel)⟩
theorem lw_p38 : lw_okq (⟨"SampledBanksModel", "settled", "(III)I"⟩, 27) := ⟨⟨by decide +kernel, by decide +kernel⟩, List.mem_of_getElem? (i := 394) (by decide +kernel), List.mem_of_getElem? (i := 653) (by decide +kernel), List.mem_of_getElem? (i := 654) (by decide +kernel)⟩
theorem lw_p39 : lw_okq (⟨"SampledBanksModel", "lacks", "(II)I"⟩, 27) := ⟨⟨by decide +kernel, by decide +kernel⟩, List.mem_of_getElem? (i := 394) (by decide +kernel), List.mem_of_getElem? (i := 665) (by decide +kernel), List.mem_of_getElem? (i := 666) (by decide +kernel)⟩
def lw_privs_3 : List (MethodName × Nat) := [(⟨"SampledBanksModel", "upAt", "(J)J"⟩, 27), (⟨"SampledBanksModel", "lowAt", "(J)J"⟩, 27), (⟨"SampledBanksModel", "offer", "(II)Z"⟩, 27), (⟨"SampledBanksModel", "note", "(II)V"⟩, 27), (⟨"SampledBanksModel", "takeOver", "()I"⟩, 27), (⟨"SampledBanksModel", "listed", "(II)I"⟩, 27), (⟨"SampledBanksModel", "settled", "(III)I"⟩, 27), (⟨"SampledBanksModel", "lacks", "(II)I"⟩, 27)]
theorem lw_r3 : ∀ q ∈ lw_privs_3, lw_okq q := List.forall_mem_cons.mpr ⟨lw_p32, List.forall_mem_cons.mpr ⟨lw_p33, List.forall_mem_cons.mpr ⟨lw_p34, List.forall_mem_cons.mpr ⟨lw_p35, List.forall_mem_cons.mpr ⟨lw_p36, List.forall_mem_cons.mpr ⟨lw_p37, List.forall_mem_cons.mpr ⟨lw_p38, List.forall_mem_cons.mpr ⟨lw_p39, fun _ h => absurd h List.not_mem_nil⟩⟩⟩⟩⟩⟩⟩⟩
def lw_privs : List (MethodName × Nat) := lw_privs_1 ++ (lw_privs_2 ++ (lw_privs_3))
def lw_tbl : List Cond := k2_sels lw_privs ++ tables_1
theorem lw_privs_ok : ∀ q ∈ lw_privs, lw_okq q := by
  show ∀ q ∈ lw_privs_1 ++ (lw_privs_2 ++ (lw_privs_3)), lw_okq q
  exact List.forall_mem_append.mpr ⟨lw_r1, List.forall_mem_append.mpr ⟨lw_r2, lw_r3⟩⟩
end
section
/-! An abstract machine: heap cells by their numbers, locals as a list, one method at a time; a call is a run of its own. -/
abbrev am_E : Type := (Nat × vp_A) ⊕ (Nat × List Value)
abbrev am_H : Type := List am_E
abbrev am_L : Type := List (Option Value)
abbrev am_M : Type := MethodName × ByteArray × Nat × Option FieldType × Nat × List (Option (Instr × Nat))
-- a field: kind (0 plain, 1 a nest mate's, 2 plain and final, 3 a nest mate's and final), number of its class, its slot, its type (0 int, 1 long, 2 a reference)
abbrev am_F : Type := Nat → Nat → Option (Nat × Nat × Nat × Nat)
-- a method: kind, its number, how many arguments, number of the receiver's class
abbrev am_Y : Type := Nat → Nat → Option (Nat × Nat × Nat × Nat)
-- methods; fields; method links; long constants; classes that are made; statics; the class whose arrays are made, and the classes' names
abbrev am_P : Type := List am_M × am_F × am_Y × (Nat → Nat → Option Int64) × (Nat → Nat → Option (Nat × List Value)) × (Nat → Nat → Option Nat) × Nat × (Nat → String)
abbrev am_X : Type := Nat → Nat × (Nat → Int32)
-- what an instruction comes to: the next place (no cell changed); the next place with a new heap; an answer or a call
abbrev am_R : Type := Nat × am_L × List Value
abbrev am_S : Type := Nat × am_L × List Value × am_H
abbrev am_T : Type := (Option Value) ⊕ (Nat × List Value × List Value)
def am_x0 : Nat := 1000000
def am_ld (l : am_L) (i : Nat) : Option Value := match l[i]? with
  | some (some v) => some v
  | _ => none
def am_cl : am_L → am_L
  | [] => []
  | _ :: t => none :: t
def am_kl (x : Option Value) : Option Value := match x with
  | some w => if w.category = 2 then none else some w
  | none => none
def am_st : Nat → Value → am_L → am_L
  | _, _, [] => []
  | 0, v, _ :: t => some v :: (if v.category = 2 then am_cl t else t)
  | 1, v, x :: t => am_kl x :: am_st 0 v t
  | i + 2, v, x :: t => x :: am_st (i + 1) v t
def am_en : List Value → am_L
  | [] => []
  | v :: vs => if v.category = 2 then some v :: none :: am_en vs else some v :: am_en vs
def am_pad (n : Nat) (l : am_L) : am_L := l ++ List.replicate (n - l.length) none
def am_nx (pc : Nat) (ls : am_L) (st : List Value) : Option am_R := some (pc, ls, st)
def am_nh (pc : Nat) (ls : am_L) (st : List Value) (h : am_H) : Option am_S := some (pc, ls, st, h)
def am_rt (r : Option Value) : Option am_T := some (.inl r)
def am_ca (j : Nat) (as st : List Value) : Option am_T := some (.inr (j, as, st))
def am_tg (pc : Nat) (off : Int) : Option Nat := if 0 ≤ (pc : Int) + off then some ((pc : Int) + off).toNat else none
def am_jp (pc : Nat) (off : Int) (ls : am_L) (st : List Value) : Option am_R := match am_tg pc off with
  | some t => am_nx t ls st
  | none => none
def am_c2 (c : ClassFile.Cond) (x y : Int32) : Bool := match c with
  | .eq => decide (x = y)
  | .ne => decide (¬ x = y)
  | .lt => decide (x < y)
  | .ge => decide (y ≤ x)
  | .gt => decide (y < x)
  | .le => decide (x ≤ y)
def am_li (ls : am_L) (i pc : Nat) (st : List Value) : Option am_R := match am_ld ls i with
  | some (.int x) => am_nx pc ls (.int x :: st)
  | _ => none
def am_ll (ls : am_L) (i pc : Nat) (st : List Value) : Option am_R := match am_ld ls i with
  | some (.long x) => am_nx pc ls (.long x :: st)
  | _ => none
def am_la (ls : am_L) (i pc : Nat) (st : List Value) : Option am_R := match am_ld ls i with
  | some (.ref x) => am_nx pc ls (.ref x :: st)
  | _ => none
def am_si (ls : am_L) (i pc : Nat) (st : List Value) : Option am_R := match st with
  | .int x :: r => if i < ls.length then am_nx pc (am_st i (.int x) ls) r else none
  | _ => none
def am_sl (ls : am_L) (i pc : Nat) (st : List Value) : Option am_R := match st with
  | .long x :: r => if i + 1 < ls.length then am_nx pc (am_st i (.long x) ls) r else none
  | _ => none
def am_sa (ls : am_L) (i pc : Nat) (st : List Value) : Option am_R := match st with
  | .ref x :: r => if i < ls.length then am_nx pc (am_st i (.ref x) ls) r else none
  | _ => none
def am_i2 (f : Int32 → Int32 → Option Int32) (pc : Nat) (ls : am_L) (st : List Value) : Option am_R := match st with
  | .int y :: .int x :: r => match f x y with
    | some z => am_nx pc ls (.int z :: r)
    | none => none
  | _ => none
def am_l2 (f : Int64 → Int64 → Option Int64) (pc : Nat) (ls : am_L) (st : List Value) : Option am_R := match st with
  | .long y :: .long x :: r => match f x y with
    | some z => am_nx pc ls (.long z :: r)
    | none => none
  | _ => none
-- closed: no reference to a cell from n on
def am_cv (n : Nat) (v : Value) : Bool := match v with
  | .ref k => decide (k < n) || decide (am_x0 ≤ k)
  | _ => true
def am_cs (n : Nat) (st : List Value) : Bool := st.all (am_cv n)
def am_co (n : Nat) (ls : am_L) : Bool := ls.all fun x => match x with
  | some v => am_cv n v
  | none => true
def am_ce (n : Nat) (e : am_E) : Bool := match e with
  | .inl (_, k, .inr (.inr (.inr (.inr f)))) => (List.range k).all fun j => match f j with
    | some a => decide (a < n)
    | none => true
  | .inl _ => true
  | .inr (_, fs) => am_cs n fs
def am_chk (ls : am_L) (st : List Value) (h : am_H) : Bool := am_co h.length ls && am_cs h.length st && h.all (am_ce h.length) && decide (h.length < 1000)
-- slots
def am_se (e : am_E) : Nat := match e with
  | .inl (_, n, _) => n
  | .inr (_, fs) => fs.length
def am_sz (h : am_H) : Nat := (h.map am_se).sum
def am_w (st : List Value) : Nat := (st.map fun v => v.category).sum
def am_get (F : am_F) (own : Nat) (k pc : Nat) (ls : am_L) (st : List Value) (h : am_H) : Option am_R := match st with
  | .ref a :: r => match F own k with
    | some (_, ci, i, _) => match h[a]? with
      | some (.inr (cj, fs)) => if cj = ci then match fs[i]? with
        | some v => am_nx pc ls (v :: r)
        | none => none
        else none
      | _ => none
    | none => none
  | _ => none
def am_vt (t : Nat) (v : Value) : Bool := match t, v with
  | 0, .int _ => true
  | 1, .long _ => true
  | 2, .ref _ => true
  | _, _ => false
def am_put (F : am_F) (own : Nat) (k pc : Nat) (ls : am_L) (st : List Value) (h : am_H) : Option am_S := match st with
  | v :: .ref a :: r => match F own k with
    | some (kd, ci, i, t) => match h[a]? with
      | some (.inr (cj, fs)) => if cj = ci ∧ i < fs.length ∧ am_vt t v = true ∧ kd < 3 then am_nh pc ls r (h.set a (.inr (cj, fs.set i v))) else none
      | _ => none
    | none => none
  | _ => none
def am_ix (i : Int32) (n : Nat) : Bool := decide (¬ (i < 0 ∨ n ≤ i.toNatClampNeg))
def am_iald (X : am_X) (pc : Nat) (ls : am_L) (st : List Value) (h : am_H) : Option am_R := match st with
  | .int i :: .ref a :: r => if am_x0 ≤ a then (if a < am_x0 + 3 ∧ am_ix i (X (a - am_x0)).1 = true then am_nx pc ls (.int ((X (a - am_x0)).2 i.toNatClampNeg) :: r) else none) else match h[a]? with
    | some (.inl (t, n, .inl f)) => if t = 0 ∧ am_ix i n = true then am_nx pc ls (.int (f i.toNatClampNeg) :: r) else none
    | _ => none
  | _ => none
def am_zald (pc : Nat) (ls : am_L) (st : List Value) (h : am_H) : Option am_R := match st with
  | .int i :: .ref a :: r => match h[a]? with
    | some (.inl (t, n, .inl f)) => if t = 2 ∧ am_ix i n = true then am_nx pc ls (.int (f i.toNatClampNeg) :: r) else none
    | _ => none
  | _ => none
def am_lald (pc : Nat) (ls : am_L) (st : List Value) (h : am_H) : Option am_R := match st with
  | .int i :: .ref a :: r => match h[a]? with
    | some (.inl (t, n, .inr (.inl f))) => if t = 1 ∧ am_ix i n = true then am_nx pc ls (.long (f i.toNatClampNeg) :: r) else none
    | _ => none
  | _ => none
def am_aald (pc : Nat) (ls : am_L) (st : List Value) (h : am_H) : Option am_R := match st with
  | .int i :: .ref a :: r => match h[a]? with
    | some (.inl (t, n, .inr (.inr (.inr (.inr f))))) => if (t = 3 ∨ t = 4) ∧ am_ix i n = true then am_nx pc ls (va_rf (f i.toNatClampNeg) :: r) else none
    | _ => none
  | _ => none
def am_iast (pc : Nat) (ls : am_L) (st : List Value) (h : am_H) : Option am_S := match st with
  | .int x :: .int i :: .ref a :: r => match h[a]? with
    | some (.inl (t, n, .inl f)) => if t = 0 ∧ am_ix i n = true then am_nh pc ls r (h.set a (.inl (t, n, .inl (upd f i.toNatClampNeg x)))) else none
    | _ => none
  | _ => none
def am_zast (pc : Nat) (ls : am_L) (st : List Value) (h : am_H) : Option am_S := match st with
  | .int x :: .int i :: .ref a :: r => match h[a]? with
    | some (.inl (t, n, .inl f)) => if t = 2 ∧ am_ix i n = true then am_nh pc ls r (h.set a (.inl (t, n, .inl (upd f i.toNatClampNeg (vp_nar .boolean x))))) else none
    | _ => none
  | _ => none
def am_last (pc : Nat) (ls : am_L) (st : List Value) (h : am_H) : Option am_S := match st with
  | .long x :: .int i :: .ref a :: r => match h[a]? with
    | some (.inl (t, n, .inr (.inl f))) => if t = 1 ∧ am_ix i n = true then am_nh pc ls r (h.set a (.inl (t, n, .inr (.inl (vp_updL f i.toNatClampNeg x))))) else none
    | _ => none
  | _ => none
def am_aast (ec pc : Nat) (ls : am_L) (st : List Value) (h : am_H) : Option am_S := match st with
  | .ref v :: .int i :: .ref a :: r => match h[a]? with
    | some (.inl (t, n, .inr (.inr (.inr (.inr f))))) => match h[v]? with
      | some (.inr (ci, _)) => if t = 4 ∧ ci = ec ∧ am_ix i n = true then am_nh pc ls r (h.set a (.inl (t, n, .inr (.inr (.inr (.inr (va_up f i.toNatClampNeg (some v)))))))) else none
      | some (.inl (u, _, .inr (.inl _))) => if t = 3 ∧ u = 1 ∧ am_ix i n = true then am_nh pc ls r (h.set a (.inl (t, n, .inr (.inr (.inr (.inr (va_up f i.toNatClampNeg (some v)))))))) else none
      | _ => none
    | _ => none
  | _ => none
def am_alen (X : am_X) (pc : Nat) (ls : am_L) (st : List Value) (h : am_H) : Option am_R := match st with
  | .ref a :: r => if am_x0 ≤ a then (if a < am_x0 + 3 then am_nx pc ls (.int (Int32.ofNat (X (a - am_x0)).1) :: r) else none) else match h[a]? with
    | some (.inl (t, n, _)) => if t < 5 then am_nx pc ls (.int (Int32.ofNat n) :: r) else none
    | _ => none
  | _ => none
def am_newa (ty : ArrayType) (pc : Nat) (ls : am_L) (st : List Value) (h : am_H) : Option am_S := match st with
  | .int n :: r => if ¬ n < 0 ∧ n.toNatClampNeg ≤ 1000 ∧ am_chk ls r h = true then (match ty with
    | .int => am_nh pc ls (.ref h.length :: r) (h ++ [.inl (0, n.toNatClampNeg, .inl (fun _ => 0))])
    | .long => am_nh pc ls (.ref h.length :: r) (h ++ [.inl (1, n.toNatClampNeg, .inr (.inl (fun _ => 0)))])
    | .boolean => am_nh pc ls (.ref h.length :: r) (h ++ [.inl (2, n.toNatClampNeg, .inl (fun _ => 0))])
    | _ => none) else none
  | _ => none
def am_newq (pc : Nat) (ls : am_L) (st : List Value) (h : am_H) : Option am_S := match st with
  | .int n :: r => if ¬ n < 0 ∧ n.toNatClampNeg ≤ 1000 ∧ am_chk ls r h = true then am_nh pc ls (.ref h.length :: r) (h ++ [.inl (4, n.toNatClampNeg, .inr (.inr (.inr (.inr (fun _ => none)))))]) else none
  | _ => none
def am_newm (pc : Nat) (ls : am_L) (st : List Value) (h : am_H) : Option am_S := match st with
  | .int k :: .int n :: r => if ¬ n < 0 ∧ n.toNatClampNeg ≤ 100 ∧ ¬ k < 0 ∧ k.toNatClampNeg ≤ 100 ∧ am_chk ls r h = true then
      am_nh pc ls (.ref h.length :: r) (h ++ .inl (3, n.toNatClampNeg, .inr (.inr (.inr (.inr (fun i => if i < n.toNatClampNeg then some (h.length + 1 + i) else none))))) :: List.replicate n.toNatClampNeg (.inl (1, k.toNatClampNeg, .inr (.inl (fun _ => 0))))) else none
  | _ => none
def am_new (N : Option (Nat × List Value)) (pc : Nat) (ls : am_L) (st : List Value) (h : am_H) : Option am_S := match N with
  | some (ci, fs) => if am_chk ls st h = true then am_nh pc ls (.ref h.length :: st) (h ++ [.inr (ci, fs)]) else none
  | none => none
-- calls; kinds: 0 static, 1 virtual, 2 a nest mate's private, 3 a constructor, 4 a nest mate's private constructor, 5 Object's constructor, 6 Math.min, 7 System.arraycopy over longs
def am_rc (h : am_H) (v : Value) (ci : Nat) : Bool := match v with
  | .ref a => match h[a]? with
    | some (.inr (cj, _)) => decide (cj = ci)
    | _ => false
  | _ => false
def am_min (y : Option (Nat × Nat × Nat × Nat)) (d pc : Nat) (ls : am_L) (st : List Value) : Option am_R := match y with
  | some (6, _, _, _) => match st with
    | .int y :: .int x :: r => if 0 < d ∧ am_w r ≤ 8 then am_nx (pc + 3) ls (.int (if y < x then y else x) :: r) else none
    | _ => none
  | _ => none
def am_oi (y : Option (Nat × Nat × Nat × Nat)) (d pc : Nat) (ls : am_L) (st : List Value) : Option am_R := match y with
  | some (5, _, _, _) => match st with
    | .ref _ :: r => if 0 < d ∧ am_w r ≤ 8 then am_nx (pc + 3) ls r else none
    | _ => none
  | _ => none
def am_cpy (y : Option (Nat × Nat × Nat × Nat)) (d pc : Nat) (ls : am_L) (st : List Value) (h : am_H) : Option am_S := match y with
  | some (7, _, _, _) => match st with
    | .int n :: .int dp :: .ref b :: .int sp :: .ref a :: r => match h[a]? with
      | some (.inl (1, n0, .inr (.inl f))) => match h[b]? with
        | some (.inl (1, n1, .inr (.inl g))) => if 0 < d ∧ am_w r ≤ 8 ∧ ¬ sp < 0 ∧ ¬ dp < 0 ∧ ¬ n < 0 ∧ sp.toNatClampNeg + n.toNatClampNeg ≤ n0 ∧ dp.toNatClampNeg + n.toNatClampNeg ≤ n1 then
            am_nh (pc + 3) ls r (h.set b (.inl (1, n1, .inr (.inl (va_cpy f g sp.toNatClampNeg dp.toNatClampNeg n.toNatClampNeg))))) else none
        | _ => none
      | _ => none
    | _ => none
  | _ => none
def am_cst (y : Option (Nat × Nat × Nat × Nat)) (st : List Value) : Option am_T := match y with
  | some (0, j, na, _) => if na ≤ st.length ∧ am_w (st.drop na) ≤ 8 then am_ca j (st.take na).reverse (st.drop na) else none
  | _ => none
-- a receiver: kinds a or b
def am_cvi (a b : Nat) (y : Option (Nat × Nat × Nat × Nat)) (st : List Value) (h : am_H) : Option am_T := match y with
  | some (kd, j, na, ci) => match st.drop na with
    | .ref o :: r => if (kd = a ∨ kd = b) ∧ am_w r ≤ 8 ∧ am_rc h (.ref o) ci = true then am_ca j (.ref o :: (st.take na).reverse) r else none
    | _ => none
  | none => none
def am_ret (t : Option FieldType) (st : List Value) : Option am_T := match t, st with
  | some .int, [.int v] => am_rt (some (.int v))
  | some .boolean, [.int v] => if v = 0 ∨ v = 1 then am_rt (some (.int v)) else none
  | _, _ => none
def am_lrt (t : Option FieldType) (st : List Value) : Option am_T := match t, st with
  | some .long, [.long v] => am_rt (some (.long v))
  | _, _ => none
def am_art (t : Option FieldType) (st : List Value) : Option am_T := match t, st with
  | some (.object _), [.ref a] => am_rt (some (.ref a))
  | _, _ => none
def am_vrt (t : Option FieldType) (st : List Value) : Option am_T := match t, st with
  | none, [] => am_rt none
  | _, _ => none
def am_exP (P : am_P) (X : am_X) (d : Nat) (M : am_M) (i : Instr) (pc : Nat) (ls : am_L) (st : List Value) (h : am_H) : Option am_R :=
  match i with
  | .iconst n => am_nx (pc + 1) ls (.int (Int32.ofInt n) :: st)
  | .bipush n => am_nx (pc + 2) ls (.int (Int8.ofInt n).toInt32 :: st)
  | .sipush n => am_nx (pc + 3) ls (.int (Int16.ofInt n).toInt32 :: st)
  | .lconst n => am_nx (pc + 1) ls (.long (Int64.ofNat (n : Nat)) :: st)
  | .ldc2_w k => match P.2.2.2.1 M.2.2.2.2.1 k with
    | some v => am_nx (pc + 3) ls (.long v :: st)
    | none => none
  | .iload k => am_li ls k (pc + 2) st
  | .iload_n k => am_li ls k (pc + 1) st
  | .lload k => am_ll ls k (pc + 2) st
  | .lload_n k => am_ll ls k (pc + 1) st
  | .aload k => am_la ls k (pc + 2) st
  | .aload_n k => am_la ls k (pc + 1) st
  | .istore k => am_si ls k (pc + 2) st
  | .istore_n k => am_si ls k (pc + 1) st
  | .lstore k => am_sl ls k (pc + 2) st
  | .lstore_n k => am_sl ls k (pc + 1) st
  | .astore k => am_sa ls k (pc + 2) st
  | .astore_n k => am_sa ls k (pc + 1) st
  | .iinc k n => match am_ld ls k with
    | some (.int x) => if k < ls.length then am_nx (pc + 3) (am_st k (.int (x + Int32.ofInt n)) ls) st else none
    | _ => none
  | .iadd => am_i2 (fun x y => some (x + y)) (pc + 1) ls st
  | .isub => am_i2 (fun x y => some (x - y)) (pc + 1) ls st
  | .imul => am_i2 (fun x y => some (x * y)) (pc + 1) ls st
  | .iand => am_i2 (fun x y => some (x &&& y)) (pc + 1) ls st
  | .idiv => am_i2 (fun x y => if y = 0 then none else some (x / y)) (pc + 1) ls st
  | .irem => am_i2 (fun x y => if y = 0 then none else some (x - x / y * y)) (pc + 1) ls st
  | .ladd => am_l2 (fun x y => some (x + y)) (pc + 1) ls st
  | .lsub => am_l2 (fun x y => some (x - y)) (pc + 1) ls st
  | .lmul => am_l2 (fun x y => some (x * y)) (pc + 1) ls st
  | .land => am_l2 (fun x y => some (x &&& y)) (pc + 1) ls st
  | .lrem => am_l2 (fun x y => if y = 0 then none else some (x - x / y * y)) (pc + 1) ls st
  | .ineg => match st with
    | .int x :: r => am_nx (pc + 1) ls (.int (-x) :: r)
    | _ => none
  | .i2l => match st with
    | .int x :: r => am_nx (pc + 1) ls (.long x.toInt64 :: r)
    | _ => none
  | .l2i => match st with
    | .long x :: r => am_nx (pc + 1) ls (.int x.toInt32 :: r)
    | _ => none
  | .lshr => match st with
    | .int y :: .long x :: r => am_nx (pc + 1) ls (.long (x >>> (y.toInt64 &&& 63)) :: r)
    | _ => none
  | .lcmp => match st with
    | .long y :: .long x :: r => am_nx (pc + 1) ls (.int (lg_cmp x y) :: r)
    | _ => none
  | .dup => match st with
    | v :: r => if v.category = 1 then am_nx (pc + 1) ls (v :: v :: r) else none
    | _ => none
  | .pop => match st with
    | v :: r => if v.category = 1 then am_nx (pc + 1) ls r else none
    | _ => none
  | .dup2 => match st with
    | v :: w :: r => if v.category = 1 ∧ w.category = 1 then am_nx (pc + 1) ls (v :: w :: v :: w :: r) else none
    | _ => none
  | .ifCond c off => match st with
    | .int x :: r => match am_tg pc off with
      | some t => if am_c2 c x 0 = true then am_nx t ls r else am_nx (pc + 3) ls r
      | none => none
    | _ => none
  | .if_icmp c off => match st with
    | .int y :: .int x :: r => match am_tg pc off with
      | some t => if am_c2 c x y = true then am_nx t ls r else am_nx (pc + 3) ls r
      | none => none
    | _ => none
  | .goto off => am_jp pc off ls st
  | .tableswitch dflt lo hi offs => match st with
    | .int x :: r => if x.toInt < lo ∨ hi < x.toInt then am_jp pc dflt ls r else match offs[(x.toInt - lo).toNat]? with
      | some off => am_jp pc off ls r
      | none => none
    | _ => none
  | .getfield k => am_get P.2.1 M.2.2.2.2.1 k (pc + 3) ls st h
  | .getstatic k => match P.2.2.2.2.2.1 M.2.2.2.2.1 k with
    | some x => if x < 3 then am_nx (pc + 3) ls (.ref (am_x0 + x) :: st) else none
    | none => none
  | .iaload => am_iald X (pc + 1) ls st h
  | .baload => am_zald (pc + 1) ls st h
  | .laload => am_lald (pc + 1) ls st h
  | .aaload => am_aald (pc + 1) ls st h
  | .arraylength => am_alen X (pc + 1) ls st h
  | .invokestatic k => am_min (P.2.2.1 M.2.2.2.2.1 k) d pc ls st
  | .invokespecial k => am_oi (P.2.2.1 M.2.2.2.2.1 k) d pc ls st
  | _ => none
def am_exH (P : am_P) (d : Nat) (M : am_M) (i : Instr) (pc : Nat) (ls : am_L) (st : List Value) (h : am_H) : Option am_S :=
  match i with
  | .putfield k => am_put P.2.1 M.2.2.2.2.1 k (pc + 3) ls st h
  | .iastore => am_iast (pc + 1) ls st h
  | .bastore => am_zast (pc + 1) ls st h
  | .lastore => am_last (pc + 1) ls st h
  | .aastore => am_aast P.2.2.2.2.2.2.1 (pc + 1) ls st h
  | .newarray ty => am_newa ty (pc + 2) ls st h
  | .anewarray k => match P.2.2.2.2.1 M.2.2.2.2.1 k with
    | some (ci, _) => if ci = P.2.2.2.2.2.2.1 then am_newq (pc + 3) ls st h else none
    | none => none
  | .multianewarray k 2 => if P.2.2.2.2.2.1 M.2.2.2.2.1 k = some 77 then am_newm (pc + 4) ls st h else none
  | .new k => am_new (P.2.2.2.2.1 M.2.2.2.2.1 k) (pc + 3) ls st h
  | .invokestatic k => am_cpy (P.2.2.1 M.2.2.2.2.1 k) d pc ls st h
  | _ => none
def am_exC (P : am_P) (M : am_M) (i : Instr) (st : List Value) (h : am_H) : Option am_T :=
  match i with
  | .ireturn => am_ret M.2.2.2.1 st
  | .lreturn => am_lrt M.2.2.2.1 st
  | .areturn => am_art M.2.2.2.1 st
  | .return_ => am_vrt M.2.2.2.1 st
  | .invokestatic k => am_cst (P.2.2.1 M.2.2.2.2.1 k) st
  | .invokevirtual k => am_cvi 1 2 (P.2.2.1 M.2.2.2.2.1 k) st h
  | .invokespecial k => am_cvi 3 4 (P.2.2.1 M.2.2.2.2.1 k) st h
  | _ => none
def am_run (P : am_P) (X : am_X) : Nat → Nat → Nat → Nat → am_L → List Value → am_H → Option (Option Value × am_H)
  | 0, _, _, _, _, _, _ => none
  | n + 1, d, j, pc, ls, st, h => match P.1[j]? with
    | none => none
    | some M => match M.2.2.2.2.2[pc]? with
      | some (some (i, _)) => match am_exP P X d M i pc ls st h with
        | some (pc', ls', st') => am_run P X n d j pc' ls' st' h
        | none => match am_exH P d M i pc ls st h with
          | some (pc', ls', st', h1) => if h.length ≤ h1.length ∧ am_sz h ≤ am_sz h1 then am_run P X n d j pc' ls' st' h1 else none
          | none => match am_exC P M i st h with
            | some (.inl r) => some (r, h)
            | some (.inr (j2, as, st')) => match d with
              | 0 => none
              | d1 + 1 => match P.1[j2]? with
                | none => none
                | some M2 => if (am_en as).length ≤ M2.2.2.1 then match am_run P X n d1 j2 0 (am_pad M2.2.2.1 (am_en as)) [] h with
                  | none => none
                  | some (r, h1) => if h1.length = h.length ∨ (am_co h.length ls && am_cs h.length st' && decide (h.length < 1000)) = true then am_run P X n (d1 + 1) j (pc + 3) ls (r.toList ++ st') h1 else none
                  else none
            | none => none
      | _ => none
def am_lo (i : Instr) (n : Nat) : Bool := match i with
  | .bipush _ | .iload _ | .lload _ | .aload _ | .istore _ | .lstore _ | .astore _ | .newarray _ => n == 2
  | .sipush _ | .ldc2_w _ | .iinc _ _ | .ifCond _ _ | .if_icmp _ _ | .goto _ | .getfield _ | .putfield _ | .getstatic _ | .new _ | .anewarray _ | .invokestatic _ | .invokevirtual _ | .invokespecial _ => n == 3
  | .multianewarray _ _ => n == 4
  | .tableswitch _ _ _ _ => true
  | _ => n == 1
end
section
/-! The abstract machine's cells as the kit's world -/
def am_tv (ad : Nat → Nat) (v : Value) : Value := match v with
  | .ref k => .ref (ad k)
  | v => v
theorem am_tv_cat (ad : Nat → Nat) (v : Value) : (am_tv ad v).category = v.category := by cases v <;> rfl
def am_tc (ad : Nat → Nat) (c : (Nat → Int32) ⊕ (Nat → Int64) ⊕ (Nat → UInt32) ⊕ (Nat → UInt64) ⊕ (Nat → Option Nat)) : (Nat → Int32) ⊕ (Nat → Int64) ⊕ (Nat → UInt32) ⊕ (Nat → UInt64) ⊕ (Nat → Option Nat) := match c with
  | .inl f => .inl f
  | .inr (.inl f) => .inr (.inl f)
  | .inr (.inr (.inl f)) => .inr (.inr (.inl f))
  | .inr (.inr (.inr (.inl f))) => .inr (.inr (.inr (.inl f)))
  | .inr (.inr (.inr (.inr f))) => .inr (.inr (.inr (.inr (fun j => (f j).map ad))))
def am_te (ad : Nat → Nat) (cA : Nat → ClassId) (e : am_E) : va_E := match e with
  | .inl (t, n, c) => .inl (cA t, n, am_tc ad c)
  | .inr (ci, fs) => .inr (ci, fs.map (am_tv ad))
def am_tw (ad : Nat → Nat) (cA : Nat → ClassId) (h : am_H) : va_W := h.mapIdx fun k e => (ad k, am_te ad cA e)
theorem am_tw_len (ad : Nat → Nat) (cA : Nat → ClassId) (h : am_H) : (am_tw ad cA h).length = h.length := by simp [am_tw]
theorem am_tw_get {ad : Nat → Nat} {cA : Nat → ClassId} {h : am_H} {k : Nat} {e : am_E} (hk : h[k]? = some e) : (am_tw ad cA h)[k]? = some (ad k, am_te ad cA e) := by
  simp [am_tw, hk]
theorem am_tw_set (ad : Nat → Nat) (cA : Nat → ClassId) (h : am_H) (k : Nat) (e : am_E) : am_tw ad cA (h.set k e) = (am_tw ad cA h).set k (ad k, am_te ad cA e) := by
  apply List.ext_getElem?
  intro i
  simp only [am_tw, List.getElem?_mapIdx, List.getElem?_set, List.length_mapIdx]
  by_cases hk : k = i
  · subst hk
    by_cases hl : k < h.length <;> simp [hl]
  · simp [hk]
-- the locals
def am_as (ad : Nat → Nat) : Nat → am_L → List (Nat × Value)
  | _, [] => []
  | j, none :: t => am_as ad (j + 1) t
  | j, some w :: t => (j, am_tv ad w) :: am_as ad (j + 1) t
theorem am_as_mem {ad : Nat → Nat} : ∀ (l : am_L) (j : Nat) (q : Nat × Value), q ∈ am_as ad j l ↔ ∃ k w, l[k]? = some (some w) ∧ q = (j + k, am_tv ad w)
  | [], j, q => by simp [am_as]
  | none :: t, j, q => by
    rw [am_as, am_as_mem t (j + 1) q]
    constructor
    · rintro ⟨k, w, h1, h2⟩
      exact ⟨k + 1, w, by simpa using h1, by rw [h2]; congr 1; omega⟩
    · rintro ⟨k, w, h1, h2⟩
      cases k with
      | zero => simp at h1
      | succ k => exact ⟨k, w, by simpa using h1, by rw [h2]; congr 1; omega⟩
  | some v :: t, j, q => by
    rw [am_as, List.mem_cons, am_as_mem t (j + 1) q]
    constructor
    · rintro (h | ⟨k, w, h1, h2⟩)
      · exact ⟨0, v, rfl, h⟩
      · exact ⟨k + 1, w, by simpa using h1, by rw [h2]; congr 1; omega⟩
    · rintro ⟨k, w, h1, h2⟩
      cases k with
      | zero =>
        simp at h1
        subst h1
        exact Or.inl h2
      | succ k => exact Or.inr ⟨k, w, by simpa using h1, by rw [h2]; congr 1; omega⟩
theorem am_as_at {ad : Nat → Nat} {l : am_L} {i : Nat} {v : Value} (h : am_ld l i = some v) : (i, am_tv ad v) ∈ am_as ad 0 l := by
  rw [am_as_mem]
  unfold am_ld at h
  split at h
  next w hw =>
    cases h
    exact ⟨i, v, hw, by simp⟩
  next => cases h
theorem am_has_at {ad : Nat → Nat} {lsC : Array Slot} {nL : Nat} {l : am_L} {i : Nat} {v : Value} (hl : lv_has lsC nL (am_as ad 0 l)) (h : am_ld l i = some v) : lsC[i]? = some (.val (am_tv ad v)) := hl.2.2 _ (am_as_at h)
theorem am_has_k {ad : Nat → Nat} {l : am_L} {i : Nat} {v : Value} (h : am_ld l i = some v) : ∃ k : Nat, (am_as ad 0 l)[k]? = some (i, am_tv ad v) := List.getElem?_of_mem (am_as_at h)
theorem am_st_get : ∀ (l : am_L) (i : Nat) (v : Value) (j : Nat) (w : Value), (am_st i v l)[j]? = some (some w) → (j = i ∧ w = v) ∨ (j ≠ i ∧ l[j]? = some (some w) ∧ (v.category = 2 → j ≠ i + 1) ∧ ¬ (j + 1 = i ∧ w.category = 2))
  | [], i, v, j, w, h => by cases i <;> simp [am_st] at h
  | x :: t, 0, v, j, w, h => by
    rw [am_st] at h
    cases j with
    | zero =>
      simp at h
      exact Or.inl ⟨rfl, h.symm⟩
    | succ j =>
      simp only [List.getElem?_cons_succ] at h
      refine Or.inr ⟨by omega, ?_, ?_, by omega⟩
      · split at h
        · cases t with
          | nil => simp [am_cl] at h
          | cons y t =>
            cases j with
            | zero => simp [am_cl] at h
            | succ j => simpa [am_cl] using h
        · simpa using h
      · intro hc e
        rw [if_pos hc] at h
        have : j = 0 := by omega
        subst this
        cases t with
        | nil => simp [am_cl] at h
        | cons y t => simp [am_cl] at h
  | x :: t, 1, v, j, w, h => by
    have h : (am_kl x :: am_st 0 v t)[j]? = some (some w) := h
    cases j with
    | zero =>
      simp only [List.getElem?_cons_zero, Option.some.injEq] at h
      cases x with
      | none => simp [am_kl] at h
      | some y =>
        simp only [am_kl] at h
        by_cases hc : y.category = 2
        · rw [if_pos hc] at h
          cases h
        · rw [if_neg hc] at h
          cases h
          exact Or.inr ⟨by omega, rfl, fun _ => by omega, fun q => hc q.2⟩
    | succ j =>
      simp only [List.getElem?_cons_succ] at h
      rcases am_st_get t 0 v j w h with ⟨h1, h2⟩ | ⟨h1, h2, h3, h4⟩
      · exact Or.inl ⟨by omega, h2⟩
      · exact Or.inr ⟨by omega, by simpa using h2, fun q => by have := h3 q; omega, by omega⟩
  | x :: t, i + 2, v, j, w, h => by
    rw [am_st] at h
    cases j with
    | zero =>
      simp only [List.getElem?_cons_zero, Option.some.injEq] at h
      subst h
      exact Or.inr ⟨by omega, rfl, fun _ => by omega, by omega⟩
    | succ j =>
      simp only [List.getElem?_cons_succ] at h
      rcases am_st_get t (i + 1) v j w h with ⟨h1, h2⟩ | ⟨h1, h2, h3, h4⟩
      · exact Or.inl ⟨by omega, h2⟩
      · exact Or.inr ⟨by omega, by simpa using h2, fun q => by have := h3 q; omega, fun q => h4 ⟨by omega, q.2⟩⟩
theorem am_st_len : ∀ (l : am_L) (i : Nat) (v : Value), (am_st i v l).length = l.length
  | [], i, v => by cases i <;> simp [am_st]
  | x :: t, 0, v => by
    rw [am_st]
    split
    · cases t <;> simp [am_cl]
    · simp
  | x :: t, 1, v => by
    show (_ :: am_st 0 v t).length = _
    simp [am_st_len t 0 v]
  | x :: t, i + 2, v => by rw [am_st]; simp [am_st_len t (i + 1) v]
theorem am_store1 {ad : Nat → Nat} {lsC : Array Slot} {nL : Nat} {l : am_L} {i : Nat} {v : Value} (hl : lv_has lsC nL ((i, am_tv ad v) :: (am_as ad 0 l).filter (fun q => !(q.1 == i) && !(q.1 + 1 == i && q.2.category == 2)))) (hc : v.category = 1) : lv_has lsC nL (am_as ad 0 (am_st i v l)) := by
  refine ⟨hl.1, hl.2.1, fun q hq => ?_⟩
  obtain ⟨k, w, h1, h2⟩ := (am_as_mem _ _ _).mp hq
  rw [Nat.zero_add] at h2
  apply hl.2.2
  rcases am_st_get _ _ _ _ _ h1 with ⟨e1, e2⟩ | ⟨e1, e2, -, e4⟩
  · rw [h2, e1, e2]
    exact List.mem_cons_self
  · refine List.mem_cons_of_mem _ (List.mem_filter.mpr ⟨(am_as_mem _ _ _).mpr ⟨k, w, e2, by rw [h2, Nat.zero_add]⟩, ?_⟩)
    rw [h2]
    simp only [am_tv_cat]
    simp [e1]
    by_cases z : k + 1 = i
    · exact Or.inr (fun y => e4 ⟨z, y⟩)
    · exact Or.inl z
theorem am_store2 {ad : Nat → Nat} {lsC : Array Slot} {nL : Nat} {l : am_L} {i : Nat} {v : Value} (hl : lv_has lsC nL ((i, am_tv ad v) :: (am_as ad 0 l).filter (fun q => !(q.1 == i) && (!(q.1 == i + 1) && !(q.1 + 1 == i && q.2.category == 2))))) (hc : v.category = 2) : lv_has lsC nL (am_as ad 0 (am_st i v l)) := by
  refine ⟨hl.1, hl.2.1, fun q hq => ?_⟩
  obtain ⟨k, w, h1, h2⟩ := (am_as_mem _ _ _).mp hq
  rw [Nat.zero_add] at h2
  apply hl.2.2
  rcases am_st_get _ _ _ _ _ h1 with ⟨e1, e2⟩ | ⟨e1, e2, e3, e4⟩
  · rw [h2, e1, e2]
    exact List.mem_cons_self
  · refine List.mem_cons_of_mem _ (List.mem_filter.mpr ⟨(am_as_mem _ _ _).mpr ⟨k, w, e2, by rw [h2, Nat.zero_add]⟩, ?_⟩)
    rw [h2]
    simp only [am_tv_cat]
    simp [e1, e3 hc]
    by_cases z : k + 1 = i
    · exact Or.inr (fun y => e4 ⟨z, y⟩)
    · exact Or.inl z
theorem am_en_as (ad : Nat → Nat) : ∀ (vs : List Value) (j k : Nat) (w : Value), (am_en vs)[k]? = some (some w) → (j + k, am_tv ad w) ∈ lv_args j (vs.map (am_tv ad))
  | [], j, k, w, h => by simp [am_en] at h
  | v :: vs, j, k, w, h => by
    rw [am_en] at h
    rw [List.map_cons, lv_args, am_tv_cat]
    by_cases hc : v.category = 2
    · rw [if_pos hc] at h
      rw [if_pos hc]
      match k, h with
      | 0, h =>
        simp at h
        subst h
        exact List.mem_cons_self
      | 1, h => simp at h
      | k + 2, h =>
        simp at h
        have := am_en_as ad vs (j + 2) k w h
        exact List.mem_cons_of_mem _ (by rw [show j + (k + 2) = j + 2 + k by omega]; exact this)
    · rw [if_neg hc] at h
      rw [if_neg hc]
      match k, h with
      | 0, h =>
        simp at h
        subst h
        exact List.mem_cons_self
      | k + 1, h =>
        simp at h
        have := am_en_as ad vs (j + 1) k w h
        exact List.mem_cons_of_mem _ (by rw [show j + (k + 1) = j + 1 + k by omega]; exact this)
theorem am_en_len (ad : Nat → Nat) : ∀ vs : List Value, (lg_sl (vs.map (am_tv ad))).length = (am_en vs).length
  | [] => by simp [lg_sl, am_en]
  | v :: vs => by
    have ih := am_en_len ad vs
    unfold lg_sl at ih ⊢
    rw [List.map_cons, List.flatMap_cons, am_tv_cat, am_en]
    by_cases hc : v.category = 2
    · rw [if_pos hc, if_pos hc]
      simp only [List.length_append, List.length_cons, List.length_nil, ih]
      omega
    · rw [if_neg hc, if_neg hc]
      simp only [List.length_append, List.length_cons, List.length_nil, ih]
      omega
theorem am_entry (ad : Nat → Nat) (vs : List Value) {n : Nat} (h : (am_en vs).length ≤ n) : lv_has ((lg_sl (vs.map (am_tv ad)) ++ List.replicate (n - (lg_sl (vs.map (am_tv ad))).length) Slot.unset).toArray) n (am_as ad 0 (am_pad n (am_en vs))) := by
  have hl := lv_entry (vs.map (am_tv ad)) (n := n) (by rw [am_en_len]; exact h)
  refine ⟨hl.1, hl.2.1, fun q hq => hl.2.2 q ?_⟩
  obtain ⟨k, w, h1, h2⟩ := (am_as_mem _ _ _).mp hq
  rw [h2]
  apply am_en_as
  unfold am_pad at h1
  by_cases hk : k < (am_en vs).length
  · rw [List.getElem?_append_left hk] at h1
    exact h1
  · rw [List.getElem?_append_right (by omega)] at h1
    have := List.mem_of_getElem? h1
    simp at this
-- closed things stay when a new cell gets its address
def am_ag (n : Nat) (ad ad' : Nat → Nat) : Prop := ∀ k, (k < n ∨ am_x0 ≤ k) → ad' k = ad k
theorem am_ag.rf (n : Nat) (ad : Nat → Nat) : am_ag n ad ad := fun _ _ => rfl
theorem am_ag.tr {n m : Nat} {a b c : Nat → Nat} (h1 : am_ag n a b) (h2 : am_ag m b c) (hm : n ≤ m) : am_ag n a c := fun k hk => by
  rw [h2 k (by omega), h1 k hk]
theorem am_ag.up {n : Nat} (ad : Nat → Nat) (q : Nat) (hn : n < 1000) : am_ag n ad (va_up ad n q) := fun k hk => va_up_ne _ _ (by unfold am_x0 at hk; omega)
theorem am_cv_tv {n : Nat} {ad ad' : Nat → Nat} (h : am_ag n ad ad') {v : Value} (hv : am_cv n v = true) : am_tv ad' v = am_tv ad v := by
  cases v with
  | ref k =>
    simp only [am_cv, Bool.or_eq_true, decide_eq_true_eq] at hv
    simp only [am_tv, h k hv]
  | _ => rfl
theorem am_cs_map {n : Nat} {ad ad' : Nat → Nat} (h : am_ag n ad ad') {st : List Value} (hv : am_cs n st = true) : st.map (am_tv ad') = st.map (am_tv ad) := by
  apply List.map_congr_left
  intro v hm
  exact am_cv_tv h (List.all_eq_true.mp hv v hm)
theorem am_co_as {n : Nat} {ad ad' : Nat → Nat} (h : am_ag n ad ad') : ∀ (l : am_L) (j : Nat), am_co n l = true → am_as ad' j l = am_as ad j l
  | [], j, hv => rfl
  | none :: t, j, hv => by
    rw [am_as, am_as]
    apply am_co_as h t
    simpa [am_co] using hv
  | some w :: t, j, hv => by
    simp only [am_co, List.all_cons, Bool.and_eq_true] at hv
    rw [am_as, am_as, am_cv_tv h hv.1, am_co_as h t (j + 1) (by simpa [am_co] using hv.2)]
theorem am_arrV {cI : ClassId} {N : Nat} {f g : Nat → Value} (h : ∀ j, j < N → f j = g j) : arrV cI N f = arrV cI N g := by
  unfold arrV
  congr 2
  funext j
  exact h j.1 j.2
-- a cell of the world as it is seen: two contents that agree within the length are one
theorem am_at_te {D : va_G} {cl : List vw_C} {n q : Nat} {ad ad' : Nat → Nat} {cA : Nat → ClassId} (h : am_ag n ad ad') {e : am_E} (hv : am_ce n e = true) {H : Heap} (hat : va_at D cl (q, am_te ad cA e) H) : va_at D cl (q, am_te ad' cA e) H := by
  match e, hv, hat with
  | .inr (ci, fs), hv, hat =>
    have e1 : am_te ad' cA (.inr (ci, fs)) = am_te ad cA (.inr (ci, fs)) := by
      simp only [am_te]
      rw [am_cs_map h (by simpa [am_ce] using hv)]
    rw [e1]
    exact hat
  | .inl (t, k, .inl f), hv, hat => exact hat
  | .inl (t, k, .inr (.inl f)), hv, hat => exact hat
  | .inl (t, k, .inr (.inr (.inl f))), hv, hat => exact hat
  | .inl (t, k, .inr (.inr (.inr (.inl f)))), hv, hat => exact hat
  | .inl (t, k, .inr (.inr (.inr (.inr f)))), hv, hat =>
    have hat' : H[q]? = some (vp_cell (cA t) (k, .inr (.inr (.inr (.inr (fun j => (f j).map ad)))))) := hat
    show H[q]? = some (vp_cell (cA t) (k, .inr (.inr (.inr (.inr (fun j => (f j).map ad'))))))
    rw [hat']
    congr 1
    rw [vp_cell_q, vp_cell_q]
    apply am_arrV
    intro j hj
    have := List.all_eq_true.mp (by simpa only [am_ce] using hv) j (List.mem_range.mpr hj)
    cases hf : f j with
    | none => rfl
    | some a =>
      rw [hf] at this
      simp only [decide_eq_true_eq] at this
      simp only [Option.map_some, h a (Or.inl this)]
theorem am_te_push {D : va_G} {cl : List vw_C} {ad ad' : Nat → Nat} {cA : Nat → ClassId} {h : am_H} {H : Heap} {n : Nat} (hag : am_ag n ad ad') (hn : n = h.length) (hc : h.all (am_ce n) = true) (hP : va_P D cl (am_tw ad cA h) H) : va_P D cl (am_tw ad' cA h) H := by
  intro k q hk
  simp only [am_tw, List.getElem?_mapIdx] at hk
  cases he : h[k]? with
  | none => rw [he] at hk; cases hk
  | some e =>
    rw [he] at hk
    cases hk
    have hlt : k < n := by rw [hn]; exact (List.getElem?_eq_some_iff.mp he).1
    have h1 := hP k _ (am_tw_get (ad := ad) (cA := cA) he)
    show va_at D cl (ad' k, am_te ad' cA e) H
    rw [hag k (Or.inl hlt)]
    exact am_at_te hag (List.all_eq_true.mp hc e (List.mem_of_getElem? he)) h1
theorem am_tw_ad (ad : Nat → Nat) (cA : Nat → ClassId) (h : am_H) (k : Nat) : (am_tw ad cA h)[k]?.map (·.1) = if k < h.length then some (ad k) else none := by
  simp only [am_tw, List.getElem?_mapIdx, Option.map_map]
  by_cases hk : k < h.length
  · rw [List.getElem?_eq_getElem hk, if_pos hk]
    rfl
  · rw [List.getElem?_eq_none (by omega), if_neg hk]
    rfl
/-- which addresses there are: nothing but the numbers' -/
theorem am_D_of {A : Nat → Prop} {w1 w2 : va_W} (hD : va_D A w1) (h : ∀ k : Nat, w2[k]?.map (·.1) = w1[k]?.map (·.1)) : va_D A w2 := by
  have key : ∀ (k : Nat) (q : Nat × va_E), w2[k]? = some q → ∃ q0, w1[k]? = some q0 ∧ q0.1 = q.1 := by
    intro k q hk
    have := h k
    rw [hk] at this
    cases hw : w1[k]? with
    | none => rw [hw] at this; cases this
    | some q0 =>
      rw [hw] at this
      exact ⟨q0, rfl, (Option.some.inj this).symm⟩
  refine ⟨fun i j x y hi hj hxy => ?_, fun k q hk => ?_⟩
  · obtain ⟨x0, h1, h2⟩ := key i x hi
    obtain ⟨y0, h3, h4⟩ := key j y hj
    exact hD.1 i j x0 y0 h1 h3 (h2.trans (hxy.trans h4.symm))
  · obtain ⟨q0, h1, h2⟩ := key k q hk
    rw [← h2]
    exact hD.2 k q0 h1
end
section
/-! What a method's activation stands on; what the tables must say -/
def am_tys (cA : Nat → ClassId) (EC : String) : List (ClassId × FieldType) := [(cA 0, .int), (cA 1, .long), (cA 2, .boolean), (cA 3, .array .long), (cA 4, .object EC)]
def am_xo (U : State) (H : Heap) (b L : Nat) (xs : Nat → Int32) : Prop := ∃ cell : Cell, H[b]? = some cell ∧ U.isArrayOf cell .int ∧ cell.vm ≠ .unknown ∧ L ≤ cell.slots.size ∧ cell.slots.size.toInt32 = Int32.ofNat L ∧ ∀ j : Nat, j < L → cell.slots[j]? = some (.int (xs j))
theorem am_xo.kept {U : State} {H H1 : Heap} {b L : Nat} {xs : Nat → Int32} (h : am_xo U H b L xs) (hq : H1[b]? = H[b]?) : am_xo U H1 b L xs := by
  obtain ⟨cell, h1, h2⟩ := h
  exact ⟨cell, by rw [hq]; exact h1, h2⟩
theorem am_xo.moved {u U : State} {H : Heap} {b L : Nat} {xs : Nat → Int32} (hvm : u.vm.Alike U.vm) (h : am_xo u H b L xs) : am_xo U H b L xs := by
  obtain ⟨cell, h1, h2, h3⟩ := h
  exact ⟨cell, h1, State.isArrayOf_alike hvm h2, h3⟩
theorem am_xo.lt {U : State} {H : Heap} {b L : Nat} {xs : Nat → Int32} (h : am_xo U H b L xs) : b < H.size := by
  obtain ⟨cell, h1, -⟩ := h
  exact (Array.getElem?_eq_some_iff.mp h1).1
def am_AOA (U : State) : Prop := (Cond.arrayOver (.array .long)).before #[] U = true
def am_EX (EC : String) (X : am_X) (NW : List Cond) (ST : Nat → String × String × String) (xa : Nat → Nat) (A : Nat → Prop) (U : State) (H : Heap) : Prop :=
  (∀ k, k < 3 → am_xo U H (xa k) (X k).1 (X k).2 ∧ ¬ A (xa k)) ∧ (∀ k, 1 ≤ k → k < 3 → va_Z (ST k).1 (ST k).2.1 (ST k).2.2 (.ref (xa k)) A U H) ∧ (∀ w ∈ NW, va_Nw w U) ∧ va_AO EC U ∧ am_AOA U
def am_GNW (NW : List Cond) : Prop := ∀ w ∈ NW, (∃ (a : String) (i : Nat) (b n d h : String), w = .fieldLinkNest a i b n d h) ∨ ∃ (a : String) (i : Nat) (x : MethodName) (h : String), w = .methodLinkNest a i x h
theorem am_AOA.moved {u U : State} (hvm : u.vm.Alike U.vm) (h : am_AOA u) : am_AOA U := over_moved hvm h
section AMEX
variable {EC : String} {X : am_X} {NW : List Cond} {ST : Nat → String × String × String} {xa : Nat → Nat} {A B : Nat → Prop} {s U : State} {H H1 : Heap}
theorem am_EX.kept (h : am_EX EC X NW ST xa A U H) (hq : ∀ a : Nat, a < H.size → ¬ A a → H1[a]? = H[a]?) : am_EX EC X NW ST xa A U H1 :=
  ⟨fun k hk => ⟨(h.1 k hk).1.kept (hq _ (h.1 k hk).1.lt (h.1 k hk).2), (h.1 k hk).2⟩, fun k h1 hk => (h.2.1 k h1 hk).kept hq, h.2.2⟩
theorem am_EX.narrow (h : am_EX EC X NW ST xa A U H) (hAB : ∀ q, B q → A q) : am_EX EC X NW ST xa B U H :=
  ⟨fun k hk => ⟨(h.1 k hk).1, fun z => (h.1 k hk).2 (hAB _ z)⟩, fun k h1 hk => (h.2.1 k h1 hk).narrow hAB, h.2.2⟩
theorem am_EX.warm (hG : am_GNW NW) (hW : s.WarmedH U.vm) (h : am_EX EC X NW ST xa A s H) : am_EX EC X NW ST xa A U H :=
  ⟨fun k hk => ⟨(h.1 k hk).1.moved hW.alike, (h.1 k hk).2⟩, fun k h1 hk => (h.2.1 k h1 hk).moved hW.alike, fun w hw => by
    rcases hG w hw with ⟨a, i, b, n, d, g, rfl⟩ | ⟨a, i, x, g, rfl⟩
    · exact va_Nw.warmF hW (h.2.2.1 _ hw)
    · exact va_Nw.warmM hW (h.2.2.1 _ hw), h.2.2.2.1.moved hW.alike, am_AOA.moved hW.alike h.2.2.2.2⟩
theorem am_EX.same (hG : am_GNW NW) (hvm : s.vm = U.vm) (h : am_EX EC X NW ST xa A s H) : am_EX EC X NW ST xa A U H := by
  have hal : s.vm.Alike U.vm := by rw [hvm]; exact Vm.Alike.refl _
  exact ⟨fun k hk => ⟨(h.1 k hk).1.moved hal, (h.1 k hk).2⟩, fun k h1 hk => (h.2.1 k h1 hk).moved hal, fun w hw => by
    rcases hG w hw with ⟨a, i, b, n, d, g, rfl⟩ | ⟨a, i, x, g, rfl⟩
    · exact va_Nw.same rfl hvm (h.2.2.1 _ hw)
    · exact va_Nw.same rfl hvm (h.2.2.1 _ hw), h.2.2.2.1.moved hal, am_AOA.moved hal h.2.2.2.2⟩
end AMEX
def am_GF (F : am_F) (CN : Nat → String) (cl : List vw_C) (WS NW : List Cond) : Prop := ∀ (own k kd ci i t : Nat), F own k = some (kd, ci, i, t) → ∃ (C : String) (T : u_T) (N : Nat) (ty : FieldType), cl[ci]? = some (C, T, N) ∧ i < N ∧ kd < 4 ∧
  (kd = 0 ∨ kd = 2 → Cond.fieldLink (CN own) k (T i).1 (T i).2.1 (T i).2.2.1 ∈ WS) ∧ (kd = 1 ∨ kd = 3 → ∃ host : String, Cond.fieldLinkNest (CN own) k (T i).1 (T i).2.1 (T i).2.2.1 host ∈ NW) ∧ (kd = 0 ∨ kd = 1 → (T i).2.2.2 = false) ∧ (kd = 2 → (T i).2.2.2 = true ∧ (T i).1 = CN own) ∧
  parseFieldDescriptor (T i).2.2.1 = some ty ∧ (t = 0 → ty = .int) ∧ (t = 1 → ty = .long) ∧ (t = 2 → (∃ n, ty = .object n) ∨ ∃ u, ty = .array u)
def am_GC (cl : List vw_C) (WS : List Cond) : Prop := ∀ (ci : Nat) (C : String) (T : u_T) (N : Nat), cl[ci]? = some (C, T, N) → (∀ w ∈ u_ws C T N, w ∈ WS) ∧ (∃ ty : Nat → FieldType, ∀ k, k < N → parseFieldDescriptor (T k).2.2.1 = some (ty k)) ∧ (∀ a, a < N → ∀ b, b < N → a ≠ b → (T a).2.1 ≠ (T b).2.1)
def am_GN (Nw : Nat → Nat → Option (Nat × List Value)) (CN : Nat → String) (cl : List vw_C) (WS : List Cond) (ec : Nat) (EC : String) : Prop := (∃ (T : u_T) (N : Nat), cl[ec]? = some (EC, T, N)) ∧ ∀ (own k ci : Nat) (fs : List Value), Nw own k = some (ci, fs) → ∃ (C : String) (T : u_T) (N : Nat) (ty : Nat → FieldType), cl[ci]? = some (C, T, N) ∧ Cond.classLink (CN own) k C ∈ WS ∧ Cond.instantiable C N ∈ WS ∧ Cond.initialized C ∈ WS ∧ fs.length = N ∧ (∀ k, k < N → parseFieldDescriptor (T k).2.2.1 = some (ty k)) ∧ (∀ j, j < N → defaultValue (ty j) = vp_V fs j) ∧ ∀ ad : Nat → Nat, fs.map (am_tv ad) = fs
def am_cal (M : am_M) (na : Nat) (WS : List Cond) : Prop := plainFor M.1 = true ∧ M.2.2.1 ≤ 21 ∧ Cond.code M.1 M.2.1 M.2.2.1 M.2.2.2.1 ∈ WS ∧ Cond.initialized M.1.cls ∈ WS ∧ M.1.cls ≠ "java/lang/invoke/MethodHandle" ∧ M.1.cls ≠ "java/lang/invoke/VarHandle" ∧ (parseMethodDescriptor M.1.desc).map (fun d => d.parameters.length) = some na
def am_sel (WS : List Cond) (y : MethodName) : Prop := ∀ (args : Array Value) (s : State), (∀ w ∈ WS, w.before args s = true) → (Cond.selects y.cls y y).before args s = true
def am_GY (P : am_P) (cl : List vw_C) (WS NW : List Cond) : Prop := ∀ (own k kd j na ci : Nat), P.2.2.1 own k = some (kd, j, na, ci) →
  (kd < 5 → ∃ M2 : am_M, P.1[j]? = some M2 ∧ am_cal M2 na WS ∧ (kd = 0 → Cond.methodLink (P.2.2.2.2.2.2.2 own) k M2.1 ∈ WS ∧ Cond.static M2.1 ∈ WS) ∧
    (kd = 1 → Cond.methodLink (P.2.2.2.2.2.2.2 own) k M2.1 ∈ WS ∧ Cond.instanceMethod M2.1 ∈ WS ∧ am_sel WS M2.1 ∧ ∃ (T : u_T) (N : Nat), cl[ci]? = some (M2.1.cls, T, N)) ∧
    (kd = 2 → (∃ host : String, Cond.methodLinkNest (P.2.2.2.2.2.2.2 own) k M2.1 host ∈ NW) ∧ Cond.instanceMethod M2.1 ∈ WS ∧ am_sel WS M2.1 ∧ ∃ (T : u_T) (N : Nat), cl[ci]? = some (M2.1.cls, T, N)) ∧
    (kd = 3 → Cond.methodLink (P.2.2.2.2.2.2.2 own) k M2.1 ∈ WS ∧ Cond.instanceMethod M2.1 ∈ WS ∧ M2.1.name = "<init>" ∧ M2.2.2.2.1 = none) ∧
    (kd = 4 → (∃ host : String, Cond.methodLinkNest (P.2.2.2.2.2.2.2 own) k M2.1 host ∈ NW) ∧ Cond.instanceMethod M2.1 ∈ WS ∧ M2.1.name = "<init>" ∧ M2.2.2.2.1 = none)) ∧
  (kd = 5 → Cond.methodLink (P.2.2.2.2.2.2.2 own) k Lib.objectInit ∈ WS ∧ Cond.instanceMethod Lib.objectInit ∈ WS ∧ Cond.code Lib.objectInit ⟨#[0xb1]⟩ 1 none ∈ WS) ∧
  (kd = 6 → Cond.methodLink (P.2.2.2.2.2.2.2 own) k Lib.Math.min.name ∈ WS ∧ Cond.static Lib.Math.min.name ∈ WS ∧ Cond.initialized "java/lang/Math" ∈ WS ∧ Cond.code Lib.Math.min.name Lib.Math.min.code 2 (some .int) ∈ WS) ∧
  (kd = 7 → Cond.methodLink (P.2.2.2.2.2.2.2 own) k arraycopyName ∈ WS ∧ Cond.native arraycopyName ∈ WS ∧ Cond.static arraycopyName ∈ WS ∧ Cond.initialized "java/lang/System" ∈ WS)
def am_GM (P : am_P) : Prop := ∀ (j : Nat) (M : am_M), P.1[j]? = some M → M.1.cls = P.2.2.2.2.2.2.2 M.2.2.2.2.1 ∧ ∀ (pc : Nat) (i : Instr) (len : Nat), M.2.2.2.2.2[pc]? = some (some (i, len)) → decode M.2.1 pc = .ok (i, len) ∧ am_lo i len = true ∧ ∀ k ci i0 t : Nat, i = .putfield k → P.2.1 M.2.2.2.2.1 k = some (2, ci, i0, t) → M.1.name = "<init>"
def am_GS (P : am_P) (WS : List Cond) (ST : Nat → String × String × String) : Prop := (∀ own k x : Nat, P.2.2.2.2.2.1 own k = some x → x < 3 → 1 ≤ x ∧ Cond.fieldLink (P.2.2.2.2.2.2.2 own) k (ST x).1 (ST x).2.1 (ST x).2.2 ∈ WS) ∧ (∀ own k : Nat, P.2.2.2.2.2.1 own k = some 77 → Cond.classLink (P.2.2.2.2.2.2.2 own) k "[[J" ∈ WS) ∧ (∀ (own k : Nat) (v : Int64), P.2.2.2.1 own k = some v → Cond.constantLong (P.2.2.2.2.2.2.2 own) k v ∈ WS) ∧ Cond.arrayClass .int ∈ WS ∧ Cond.arrayClass .long ∈ WS ∧ Cond.arrayClass .boolean ∈ WS
def am_GW (WS : List Cond) : Prop := ∀ w ∈ WS, ((w.onTables && w.keeps) = true ∨ ∃ ty, w = .arrayClass ty)
/-- all of them -/
def am_G (P : am_P) (cl : List vw_C) (WS NW : List Cond) (ST : Nat → String × String × String) (EC : String) : Prop :=
  am_GNW NW ∧ am_GF P.2.1 P.2.2.2.2.2.2.2 cl WS NW ∧ am_GC cl WS ∧ am_GN P.2.2.2.2.1 P.2.2.2.2.2.2.2 cl WS P.2.2.2.2.2.2.1 EC ∧ am_GY P cl WS NW ∧ am_GM P ∧ am_GS P WS ST ∧ am_GW WS
/-- an activation: the method, its tables, what lies outside -/
def am_C (CN : Nat → String) (X : am_X) (NW : List Cond) (ST : Nat → String × String × String) (WS : List Cond) (D : va_G) (cl : List vw_C) (cA : Nat → ClassId) (EC : String) (xa : Nat → Nat) (A : Nat → Prop) (M : am_M) (p : Program) (s : State) (m : MethodId) (args : Array Value) (meth : Method) (c : Code) : Prop :=
  p.tables.exec = Jvm.exec ∧ c.code = M.2.1 ∧ c.maxLocals = M.2.2.1 ∧ meth.sig.returnType = M.2.2.2.1 ∧ (∀ w ∈ WS, w.before args s = true) ∧ s.vm.findClass (CN M.2.2.2.2.1) = some m.cls ∧ meth.locks = false ∧ (M.1.name = "<init>" → meth.name = "<init>") ∧ va_K D cl (am_tys cA EC) s ∧ (∀ q, s.heap.size ≤ q → A q) ∧ am_EX EC X NW ST xa A s s.heap
def am_J (D : va_G) (cl : List vw_C) (cA : Nat → ClassId) (A : Nat → Prop) (H0 : Heap) (ad : Nat → Nat) (H : Heap) (locs : List Loc) (h : am_H) : Prop := va_P D cl (am_tw ad cA h) H ∧ va_D A (am_tw ad cA h) ∧ va_S A H0 H locs
section AMCALL
variable {p : Program} {l : Launch} {e : Env} {R : Room} {s : State} {m : MethodId} {args : Array Value} {below : List Frame} {meth : Method} {c : Code} {H : Heap} {locs : List Loc} {cells slots mc ms pc : Nat} {Q : State → Prop} {ls : Array Slot} {rest st0 : List Value} {free : Addr → Prop}
theorem am_callG {Qa : State → Outcome → State → Prop} (hr : va_Run p l e R s m args below meth c H locs cells slots mc ms (F0 m pc ls st0) rest Qa free)
    (kk : ∀ (v : Option Value) (st₀ t : State) (H1 : Heap) (L : List Loc), st₀.heap = H → t.heap = H1 → Qa st₀ (.returned v) t → (∀ q ∈ L, free q.base) → W p l e R s m args below meth c H1 (locs ++ L) (cells + mc) (slots + ms) Q (F0 m (pc + 3) ls (v.toList ++ rest))) : W p l e R s m args below meth c H locs cells slots Q (F0 m pc ls st0) := by
  intro T hT X
  obtain ⟨v, st₀, t, T', L, h0, X', hL, e1, e2, hq, st⟩ := hr T hT X
  obtain ⟨t2, a1, b1⟩ := kk v st₀ t T'.heap L h0 e1.symm hq hL T' rfl X'
  exact ⟨t2, st t2 a1, b1⟩
end AMCALL
-- what the defs of the machine say when they come to something
theorem am_i2_sp {f : Int32 → Int32 → Option Int32} {pc pc' : Nat} {ls ls' : am_L} {st st' : List Value} (h : am_i2 f pc ls st = some (pc', ls', st')) : ∃ x y z r, st = .int y :: .int x :: r ∧ f x y = some z ∧ pc' = pc ∧ ls' = ls ∧ st' = .int z :: r := by
  unfold am_i2 at h
  split at h
  next y x r =>
    split at h
    next z hz =>
      cases h
      exact ⟨x, y, z, r, rfl, hz, rfl, rfl, rfl⟩
    next => cases h
  next => cases h
theorem am_l2_sp {f : Int64 → Int64 → Option Int64} {pc pc' : Nat} {ls ls' : am_L} {st st' : List Value} (h : am_l2 f pc ls st = some (pc', ls', st')) : ∃ x y z r, st = .long y :: .long x :: r ∧ f x y = some z ∧ pc' = pc ∧ ls' = ls ∧ st' = .long z :: r := by
  unfold am_l2 at h
  split at h
  next y x r =>
    split at h
    next z hz =>
      cases h
      exact ⟨x, y, z, r, rfl, hz, rfl, rfl, rfl⟩
    next => cases h
  next => cases h
theorem am_li_sp {pc pc' i : Nat} {ls ls' : am_L} {st st' : List Value} (h : am_li ls i pc st = some (pc', ls', st')) : ∃ x, am_ld ls i = some (.int x) ∧ pc' = pc ∧ ls' = ls ∧ st' = .int x :: st := by
  unfold am_li at h
  split at h
  next x hx =>
    cases h
    exact ⟨x, hx, rfl, rfl, rfl⟩
  next => cases h
theorem am_ll_sp {pc pc' i : Nat} {ls ls' : am_L} {st st' : List Value} (h : am_ll ls i pc st = some (pc', ls', st')) : ∃ x, am_ld ls i = some (.long x) ∧ pc' = pc ∧ ls' = ls ∧ st' = .long x :: st := by
  unfold am_ll at h
  split at h
  next x hx =>
    cases h
    exact ⟨x, hx, rfl, rfl, rfl⟩
  next => cases h
theorem am_la_sp {pc pc' i : Nat} {ls ls' : am_L} {st st' : List Value} (h : am_la ls i pc st = some (pc', ls', st')) : ∃ x, am_ld ls i = some (.ref x) ∧ pc' = pc ∧ ls' = ls ∧ st' = .ref x :: st := by
  unfold am_la at h
  split at h
  next x hx =>
    cases h
    exact ⟨x, hx, rfl, rfl, rfl⟩
  next => cases h
theorem am_si_sp {pc pc' i : Nat} {ls ls' : am_L} {st st' : List Value} (h : am_si ls i pc st = some (pc', ls', st')) : ∃ x r, st = .int x :: r ∧ i < ls.length ∧ pc' = pc ∧ ls' = am_st i (.int x) ls ∧ st' = r := by
  unfold am_si at h
  split at h
  next x r =>
    split at h
    next hi =>
      cases h
      exact ⟨x, _, rfl, hi, rfl, rfl, rfl⟩
    next => cases h
  next => cases h
theorem am_sl_sp {pc pc' i : Nat} {ls ls' : am_L} {st st' : List Value} (h : am_sl ls i pc st = some (pc', ls', st')) : ∃ x r, st = .long x :: r ∧ i + 1 < ls.length ∧ pc' = pc ∧ ls' = am_st i (.long x) ls ∧ st' = r := by
  unfold am_sl at h
  split at h
  next x r =>
    split at h
    next hi =>
      cases h
      exact ⟨x, _, rfl, hi, rfl, rfl, rfl⟩
    next => cases h
  next => cases h
theorem am_sa_sp {pc pc' i : Nat} {ls ls' : am_L} {st st' : List Value} (h : am_sa ls i pc st = some (pc', ls', st')) : ∃ x r, st = .ref x :: r ∧ i < ls.length ∧ pc' = pc ∧ ls' = am_st i (.ref x) ls ∧ st' = r := by
  unfold am_sa at h
  split at h
  next x r =>
    split at h
    next hi =>
      cases h
      exact ⟨x, _, rfl, hi, rfl, rfl, rfl⟩
    next => cases h
  next => cases h
theorem am_tg_sp {pc t : Nat} {off : Int} (h : am_tg pc off = some t) : (pc : Int) + off = (t : Int) := by
  unfold am_tg at h
  split at h
  next h0 =>
    cases h
    exact (Int.toNat_of_nonneg h0).symm
  next => cases h
theorem am_jp_sp {pc pc' : Nat} {off : Int} {ls ls' : am_L} {st st' : List Value} (h : am_jp pc off ls st = some (pc', ls', st')) : (pc : Int) + off = (pc' : Int) ∧ ls' = ls ∧ st' = st := by
  unfold am_jp at h
  split at h
  next t ht =>
    cases h
    exact ⟨am_tg_sp ht, rfl, rfl⟩
  next => cases h
theorem am_ix_in {i : Int32} {n : Nat} (h : am_ix i n = true) : vp_in i n := by
  unfold am_ix at h
  exact (of_decide_eq_true h : ¬ (i < 0 ∨ n ≤ i.toNatClampNeg))
theorem am_tv_rf (ad : Nat → Nat) (r : Option Nat) : am_tv ad (va_rf r) = va_rf (r.map ad) := by cases r <;> rfl
theorem am_w_map (ad : Nat → Nat) (r : List Value) : ((r.map (am_tv ad)).map fun v => v.category).sum = am_w r := by
  unfold am_w
  rw [List.map_map]
  congr 1
  apply List.map_congr_left
  intro v _
  exact am_tv_cat ad v
end
section
/-! Instructions that change no cell -/
section AMP
variable {P : am_P} {X : am_X} {cl : List vw_C} {WS NW : List Cond} {ST : Nat → String × String × String} {EC : String} {D : va_G} {cA : Nat → ClassId} {l : Launch} {d : Nat} {M : am_M} {pc pc' len : Nat} {ls ls' : am_L} {st st' : List Value} {h : am_H}
variable {p : Program} {e : Env} {R : Room} {s : State} {m : MethodId} {args : Array Value} {below : List Frame} {meth : Method} {c : Code} {H : Heap} {locs : List Loc} {cells slots : Nat} {A : Nat → Prop} {ad xa : Nat → Nat} {lsC : Array Slot} {Q : State → Prop}
set_option maxHeartbeats 4000000 in
theorem am_plain (hG : am_G P cl WS NW ST EC) (i : Instr) (hC : am_C P.2.2.2.2.2.2.2 X NW ST WS D cl cA EC xa A M p s m args meth c) (hxa : ∀ k, k < 3 → xa k = ad (am_x0 + k)) (hJ : am_J D cl cA A s.heap ad H locs h) (hl : lv_has lsC M.2.2.1 (am_as ad 0 ls)) (hll : ls.length = M.2.2.1) (hd : decode M.2.1 pc = .ok (i, len)) (hlo : am_lo i len = true)
    (hRf : d ≤ R.frames) (hRl : 40 * d ≤ R.locals) (hcR : cells ≤ R.cells) (hsR : slots ≤ R.slots)
    (hex : am_exP P X d M i pc ls st h = some (pc', ls', st'))
    (kN : ∀ lsC' : Array Slot, lv_has lsC' M.2.2.1 (am_as ad 0 ls') → ls'.length = M.2.2.1 → W p l e R s m args below meth c H locs cells slots Q (F0 m pc' lsC' (st'.map (am_tv ad)))) :
    W p l e R s m args below meth c H locs cells slots Q (F0 m pc lsC (st.map (am_tv ad))) := by
  obtain ⟨hx, hb, hml, hr, hts, hown, hlk, hnm, hK, hA, hE⟩ := hC
  obtain ⟨hP, hD, hS⟩ := hJ
  obtain ⟨-, hGF, hGC, hGN, hGY, -, hGS, -⟩ := hG
  cases i
  case iconst n =>
    simp only [am_lo, beq_iff_eq] at hlo
    subst hlo
    cases hex
    exact lv_iconst hx hb hd rfl (kN lsC hl hll)
  case bipush n =>
    simp only [am_lo, beq_iff_eq] at hlo
    subst hlo
    cases hex
    exact lv_bipush hx hb hd rfl (kN lsC hl hll)
  case sipush n =>
    simp only [am_lo, beq_iff_eq] at hlo
    subst hlo
    cases hex
    exact lv_sipush hx hb hd rfl (kN lsC hl hll)
  case lconst n =>
    simp only [am_lo, beq_iff_eq] at hlo
    subst hlo
    cases hex
    exact lv_lconst hx hb hd rfl (kN lsC hl hll)
  case ldc2_w k =>
    simp only [am_lo, beq_iff_eq] at hlo
    subst hlo
    simp only [am_exP] at hex
    split at hex
    next v hv =>
      cases hex
      exact lv_ldc2 hx hb hown (hts _ (hGS.2.2.1 _ _ _ hv)) hd (kN lsC hl hll)
    next => cases hex
  case iload k =>
    simp only [am_lo, beq_iff_eq] at hlo
    subst hlo
    obtain ⟨x, h1, rfl, rfl, rfl⟩ := am_li_sp hex
    exact lv_iload hx hb hd (am_has_at hl h1) (kN lsC hl hll)
  case iload_n k =>
    simp only [am_lo, beq_iff_eq] at hlo
    subst hlo
    obtain ⟨x, h1, rfl, rfl, rfl⟩ := am_li_sp hex
    exact lv_iload_n hx hb hd rfl (am_has_at hl h1) (kN lsC hl hll)
  case lload k =>
    simp only [am_lo, beq_iff_eq] at hlo
    subst hlo
    obtain ⟨x, h1, rfl, rfl, rfl⟩ := am_ll_sp hex
    exact lv_lload hx hb hd (am_has_at hl h1) (kN lsC hl hll)
  case lload_n k =>
    simp only [am_lo, beq_iff_eq] at hlo
    subst hlo
    obtain ⟨x, h1, rfl, rfl, rfl⟩ := am_ll_sp hex
    exact lv_lload_n hx hb hd rfl (am_has_at hl h1) (kN lsC hl hll)
  case aload k =>
    simp only [am_lo, beq_iff_eq] at hlo
    subst hlo
    obtain ⟨x, h1, rfl, rfl, rfl⟩ := am_la_sp hex
    exact lv_aload hx hb hd (am_has_at hl h1) (kN lsC hl hll)
  case aload_n k =>
    simp only [am_lo, beq_iff_eq] at hlo
    subst hlo
    obtain ⟨x, h1, rfl, rfl, rfl⟩ := am_la_sp hex
    exact lv_aload_n hx hb hd rfl (am_has_at hl h1) (kN lsC hl hll)
  case istore k =>
    simp only [am_lo, beq_iff_eq] at hlo
    subst hlo
    obtain ⟨x, r, rfl, h1, rfl, rfl, rfl⟩ := am_si_sp hex
    exact lv_istore hx hb hd hl (by omega) rfl (fun ls2 h2 => kN ls2 (am_store1 (v := .int x) h2 rfl) (by rw [am_st_len]; exact hll))
  case istore_n k =>
    simp only [am_lo, beq_iff_eq] at hlo
    subst hlo
    obtain ⟨x, r, rfl, h1, rfl, rfl, rfl⟩ := am_si_sp hex
    exact lv_istore_n hx hb hd rfl hl (by omega) rfl (fun ls2 h2 => kN ls2 (am_store1 (v := .int x) h2 rfl) (by rw [am_st_len]; exact hll))
  case lstore k =>
    simp only [am_lo, beq_iff_eq] at hlo
    subst hlo
    obtain ⟨x, r, rfl, h1, rfl, rfl, rfl⟩ := am_sl_sp hex
    exact lv_lstore hx hb hd hl (by omega) rfl (fun ls2 h2 => kN ls2 (am_store2 (v := .long x) h2 rfl) (by rw [am_st_len]; exact hll))
  case lstore_n k =>
    simp only [am_lo, beq_iff_eq] at hlo
    subst hlo
    obtain ⟨x, r, rfl, h1, rfl, rfl, rfl⟩ := am_sl_sp hex
    exact lv_lstore_n hx hb hd rfl hl (by omega) rfl (fun ls2 h2 => kN ls2 (am_store2 (v := .long x) h2 rfl) (by rw [am_st_len]; exact hll))
  case astore k =>
    simp only [am_lo, beq_iff_eq] at hlo
    subst hlo
    obtain ⟨x, r, rfl, h1, rfl, rfl, rfl⟩ := am_sa_sp hex
    exact lv_astore hx hb hd hl (by omega) rfl (fun ls2 h2 => kN ls2 (am_store1 (v := .ref x) h2 rfl) (by rw [am_st_len]; exact hll))
  case astore_n k =>
    simp only [am_lo, beq_iff_eq] at hlo
    subst hlo
    obtain ⟨x, r, rfl, h1, rfl, rfl, rfl⟩ := am_sa_sp hex
    exact lv_astore_n hx hb hd rfl hl (by omega) rfl (fun ls2 h2 => kN ls2 (am_store1 (v := .ref x) h2 rfl) (by rw [am_st_len]; exact hll))
  case iinc k n =>
    simp only [am_lo, beq_iff_eq] at hlo
    subst hlo
    simp only [am_exP] at hex
    split at hex
    next x hx1 =>
      split at hex
      next hk =>
        cases hex
        obtain ⟨i0, hi0⟩ := am_has_k (ad := ad) hx1
        exact lv_iinc hx hb hd hl hi0 rfl (by omega) rfl (fun ls2 h2 => kN ls2 (am_store1 (v := .int (x + Int32.ofInt n)) h2 rfl) (by rw [am_st_len]; exact hll))
      next => cases hex
    next => cases hex
  case iadd =>
    simp only [am_lo, beq_iff_eq] at hlo
    subst hlo
    obtain ⟨x, y, z, r, rfl, hz, rfl, rfl, rfl⟩ := am_i2_sp (f := fun x y => some (x + y)) hex
    cases hz
    exact lv_iadd hx hb hd (kN lsC hl hll)
  case isub =>
    simp only [am_lo, beq_iff_eq] at hlo
    subst hlo
    obtain ⟨x, y, z, r, rfl, hz, rfl, rfl, rfl⟩ := am_i2_sp (f := fun x y => some (x - y)) hex
    cases hz
    exact lv_isub hx hb hd (kN lsC hl hll)
  case imul =>
    simp only [am_lo, beq_iff_eq] at hlo
    subst hlo
    obtain ⟨x, y, z, r, rfl, hz, rfl, rfl, rfl⟩ := am_i2_sp (f := fun x y => some (x * y)) hex
    cases hz
    exact lv_imul hx hb hd (kN lsC hl hll)
  case iand =>
    simp only [am_lo, beq_iff_eq] at hlo
    subst hlo
    obtain ⟨x, y, z, r, rfl, hz, rfl, rfl, rfl⟩ := am_i2_sp (f := fun x y => some (x &&& y)) hex
    cases hz
    exact lv_iand hx hb hd (kN lsC hl hll)
  case idiv =>
    simp only [am_lo, beq_iff_eq] at hlo
    subst hlo
    obtain ⟨x, y, z, r, rfl, hz, rfl, rfl, rfl⟩ := am_i2_sp hex
    by_cases hy : y = 0
    · rw [if_pos hy] at hz
      cases hz
    · rw [if_neg hy] at hz
      cases hz
      exact lv_idiv hx hb hd hy (kN lsC hl hll)
  case irem =>
    simp only [am_lo, beq_iff_eq] at hlo
    subst hlo
    obtain ⟨x, y, z, r, rfl, hz, rfl, rfl, rfl⟩ := am_i2_sp hex
    by_cases hy : y = 0
    · rw [if_pos hy] at hz
      cases hz
    · rw [if_neg hy] at hz
      cases hz
      exact lv_irem hx hb hd hy (kN lsC hl hll)
  case ladd =>
    simp only [am_lo, beq_iff_eq] at hlo
    subst hlo
    obtain ⟨x, y, z, r, rfl, hz, rfl, rfl, rfl⟩ := am_l2_sp (f := fun x y => some (x + y)) hex
    cases hz
    exact lv_ladd hx hb hd (kN lsC hl hll)
  case lsub =>
    simp only [am_lo, beq_iff_eq] at hlo
    subst hlo
    obtain ⟨x, y, z, r, rfl, hz, rfl, rfl, rfl⟩ := am_l2_sp (f := fun x y => some (x - y)) hex
    cases hz
    exact lv_lsub hx hb hd (kN lsC hl hll)
  case lmul =>
    simp only [am_lo, beq_iff_eq] at hlo
    subst hlo
    obtain ⟨x, y, z, r, rfl, hz, rfl, rfl, rfl⟩ := am_l2_sp (f := fun x y => some (x * y)) hex
    cases hz
    exact lv_lmul hx hb hd (kN lsC hl hll)
  case land =>
    simp only [am_lo, beq_iff_eq] at hlo
    subst hlo
    obtain ⟨x, y, z, r, rfl, hz, rfl, rfl, rfl⟩ := am_l2_sp (f := fun x y => some (x &&& y)) hex
    cases hz
    exact lv_land hx hb hd (kN lsC hl hll)
  case lrem =>
    simp only [am_lo, beq_iff_eq] at hlo
    subst hlo
    obtain ⟨x, y, z, r, rfl, hz, rfl, rfl, rfl⟩ := am_l2_sp hex
    by_cases hy : y = 0
    · rw [if_pos hy] at hz
      cases hz
    · rw [if_neg hy] at hz
      cases hz
      exact lv_lrem hx hb hd hy (kN lsC hl hll)
  case ineg =>
    simp only [am_lo, beq_iff_eq] at hlo
    subst hlo
    simp only [am_exP] at hex
    split at hex
    next x r =>
      cases hex
      exact lv_ineg hx hb hd (kN lsC hl hll)
    next => cases hex
  case i2l =>
    simp only [am_lo, beq_iff_eq] at hlo
    subst hlo
    simp only [am_exP] at hex
    split at hex
    next x r =>
      cases hex
      exact lv_i2l hx hb hd rfl (kN lsC hl hll)
    next => cases hex
  case l2i =>
    simp only [am_lo, beq_iff_eq] at hlo
    subst hlo
    simp only [am_exP] at hex
    split at hex
    next x r =>
      cases hex
      exact lv_l2i hx hb hd rfl (kN lsC hl hll)
    next => cases hex
  case lshr =>
    simp only [am_lo, beq_iff_eq] at hlo
    subst hlo
    simp only [am_exP] at hex
    split at hex
    next y x r =>
      cases hex
      exact lv_lshr hx hb hd rfl (kN lsC hl hll)
    next => cases hex
  case lcmp =>
    simp only [am_lo, beq_iff_eq] at hlo
    subst hlo
    simp only [am_exP] at hex
    split at hex
    next y x r =>
      cases hex
      exact W.lcmp hx hb hd (kN lsC hl hll)
    next => cases hex
  case dup =>
    simp only [am_lo, beq_iff_eq] at hlo
    subst hlo
    simp only [am_exP] at hex
    split at hex
    next v r =>
      split at hex
      next hv =>
        cases hex
        exact lv_dup hx hb hd (by rw [am_tv_cat]; exact hv) (kN lsC hl hll)
      next => cases hex
    next => cases hex
  case pop =>
    simp only [am_lo, beq_iff_eq] at hlo
    subst hlo
    simp only [am_exP] at hex
    split at hex
    next v r =>
      split at hex
      next hv =>
        cases hex
        exact lv_pop hx hb hd (by rw [am_tv_cat]; exact hv) (kN lsC hl hll)
      next => cases hex
    next => cases hex
  case dup2 =>
    simp only [am_lo, beq_iff_eq] at hlo
    subst hlo
    simp only [am_exP] at hex
    split at hex
    next v w r =>
      split at hex
      next hv =>
        cases hex
        exact lv_dup2_11 hx hb hd (by rw [am_tv_cat]; exact hv.1) (by rw [am_tv_cat]; exact hv.2) (kN lsC hl hll)
      next => cases hex
    next => cases hex
  case ifCond cd off =>
    simp only [am_lo, beq_iff_eq] at hlo
    subst hlo
    simp only [am_exP] at hex
    split at hex
    next x r =>
      split at hex
      next t ht0 =>
        have ht := am_tg_sp ht0
        split at hex
        next hc =>
          cases hex
          have kN := kN lsC hl hll
          cases cd <;> simp only [am_c2, decide_eq_true_eq] at hc
          · exact lv_if_eq hx hb hd ht (fun _ => kN) (fun z => absurd hc z)
          · exact lv_if_ne hx hb hd ht (fun _ => kN) (fun z => absurd z hc)
          · exact lv_if_lt hx hb hd ht (fun _ => kN) (fun z => absurd hc z)
          · exact lv_if_ge hx hb hd ht (fun _ => kN) (fun z => absurd hc z)
          · exact lv_if_gt hx hb hd ht (fun _ => kN) (fun z => absurd hc z)
          · exact lv_if_le hx hb hd ht (fun _ => kN) (fun z => absurd hc z)
        next hc =>
          cases hex
          have kN := kN lsC hl hll
          cases cd <;> simp only [am_c2, decide_eq_true_eq] at hc
          · exact lv_if_eq hx hb hd ht (fun z => absurd z hc) (fun _ => kN)
          · exact lv_if_ne hx hb hd ht (fun z => absurd z hc) (fun _ => kN)
          · exact lv_if_lt hx hb hd ht (fun z => absurd z hc) (fun _ => kN)
          · exact lv_if_ge hx hb hd ht (fun z => absurd z hc) (fun _ => kN)
          · exact lv_if_gt hx hb hd ht (fun z => absurd z hc) (fun _ => kN)
          · exact lv_if_le hx hb hd ht (fun z => absurd z hc) (fun _ => kN)
      next => cases hex
    next => cases hex
  case if_icmp cd off =>
    simp only [am_lo, beq_iff_eq] at hlo
    subst hlo
    simp only [am_exP] at hex
    split at hex
    next y x r =>
      split at hex
      next t ht0 =>
        have ht := am_tg_sp ht0
        split at hex
        next hc =>
          cases hex
          have kN := kN lsC hl hll
          cases cd <;> simp only [am_c2, decide_eq_true_eq] at hc
          · exact lv_icmp_eq hx hb hd ht (fun _ => kN) (fun z => absurd hc z)
          · exact lv_icmp_ne hx hb hd ht (fun _ => kN) (fun z => absurd z hc)
          · exact lv_icmp_lt hx hb hd ht (fun _ => kN) (fun z => absurd hc z)
          · exact lv_icmp_ge hx hb hd ht (fun _ => kN) (fun z => absurd hc z)
          · exact lv_icmp_gt hx hb hd ht (fun _ => kN) (fun z => absurd hc z)
          · exact lv_icmp_le hx hb hd ht (fun _ => kN) (fun z => absurd hc z)
        next hc =>
          cases hex
          have kN := kN lsC hl hll
          cases cd <;> simp only [am_c2, decide_eq_true_eq] at hc
          · exact lv_icmp_eq hx hb hd ht (fun z => absurd z hc) (fun _ => kN)
          · exact lv_icmp_ne hx hb hd ht (fun z => absurd z hc) (fun _ => kN)
          · exact lv_icmp_lt hx hb hd ht (fun z => absurd z hc) (fun _ => kN)
          · exact lv_icmp_ge hx hb hd ht (fun z => absurd z hc) (fun _ => kN)
          · exact lv_icmp_gt hx hb hd ht (fun z => absurd z hc) (fun _ => kN)
          · exact lv_icmp_le hx hb hd ht (fun z => absurd z hc) (fun _ => kN)
      next => cases hex
    next => cases hex
  case goto off =>
    simp only [am_lo, beq_iff_eq] at hlo
    subst hlo
    obtain ⟨ht, rfl, rfl⟩ := am_jp_sp hex
    exact lv_goto hx hb hd ht (kN lsC hl hll)
  case tableswitch dflt lo hi offs =>
    simp only [am_exP] at hex
    split at hex
    next x r =>
      split at hex
      next hc =>
        obtain ⟨ht, rfl, rfl⟩ := am_jp_sp hex
        exact lv_tableOut hx hb hd hc ht (kN lsC hl hll)
      next hc =>
        split at hex
        next off ho =>
          obtain ⟨ht, rfl, rfl⟩ := am_jp_sp hex
          exact lv_tableIn hx hb hd (fun z => hc (Or.inl z)) (fun z => hc (Or.inr z)) ho ht (kN lsC hl hll)
        next => cases hex
    next => cases hex
  case getfield k =>
    simp only [am_lo, beq_iff_eq] at hlo
    subst hlo
    simp only [am_exP, am_get] at hex
    split at hex
    next a r =>
      split at hex
      next kd ci i0 t hF =>
        split at hex
        next cj fs hh =>
          split at hex
          next hcj =>
            split at hex
            next v hv =>
              subst hcj
              cases hex
              obtain ⟨C, T, N, ty, hc, hi, hk4, h02, h13, -⟩ := hGF _ _ _ _ _ _ hF
              have he : (am_tw ad cA h)[a]? = some (ad a, .inr (cj, fs.map (am_tv ad))) := am_tw_get hh
              have hv' : (fs.map (am_tv ad))[i0]? = some (am_tv ad v) := by rw [List.getElem?_map, hv]; rfl
              by_cases hkd : kd = 0 ∨ kd = 2
              · exact va_get (D := D) (ci := cj) (v := am_tv ad v) hx hb hts (hGC _ _ _ _ hc).1 hown hK hP a he hc i0 hi (hts _ (h02 hkd)) (fun _ z => z) hv' hd (kN lsC hl hll)
              · obtain ⟨host, hho⟩ := h13 (by omega)
                exact va_getN (D := D) (ci := cj) (v := am_tv ad v) (host := host) hx hb hts (hGC _ _ _ _ hc).1 hown hK hP a he hc i0 hi (va_Nw.use rfl (hE.2.2.1 _ hho)) (fun _ z => z) hv' hd (kN lsC hl hll)
            next => cases hex
          next => cases hex
        next => cases hex
      next => cases hex
    next => cases hex
  case getstatic k =>
    simp only [am_lo, beq_iff_eq] at hlo
    subst hlo
    simp only [am_exP] at hex
    split at hex
    next x hX =>
      split at hex
      next h3 =>
        cases hex
        obtain ⟨h1, hlink⟩ := hGS.1 _ _ _ hX h3
        have hz := hE.2.1 x h1 h3
        rw [hxa x h3] at hz
        exact va_gets hx hb hz hS hown (hts _ hlink) (fun _ z => z) hd (kN lsC hl hll)
      next => cases hex
    next => cases hex
  case iaload =>
    simp only [am_lo, beq_iff_eq] at hlo
    subst hlo
    simp only [am_exP, am_iald] at hex
    split at hex
    next i0 a r =>
      split at hex
      next hax =>
        split at hex
        next hin =>
          cases hex
          obtain ⟨k0, hk0⟩ : ∃ k0, a = am_x0 + k0 := ⟨a - am_x0, (Nat.add_sub_cancel' hax).symm⟩
          subst hk0
          have hk3 : k0 < 3 := Nat.lt_of_add_lt_add_left hin.1
          rw [Nat.add_sub_cancel_left] at hin
          have hin1 := am_ix_in hin.2
          have hkN := kN lsC hl hll
          rw [Nat.add_sub_cancel_left] at hkN
          obtain ⟨cell, g1, g2, g3, g4, g5, g6⟩ := (hE.1 k0 hk3).1.kept (hS.2.1 _ (hE.1 k0 hk3).1.lt (hE.1 k0 hk3).2)
          rw [hxa k0 hk3] at g1
          have hlt : i0.toNatClampNeg < (X k0).1 := Nat.not_le.mp fun q => hin1 (Or.inr q)
          exact W.iald (v := .int ((X k0).2 i0.toNatClampNeg)) hx hb g1 g2 g3 (fun z => z.elim (fun z => hin1 (Or.inl z)) (fun z => by omega)) (g6 _ hlt) rfl rfl hd hkN
        next => cases hex
      next hax =>
        split at hex
        next t n f hh =>
          split at hex
          next hin =>
            obtain ⟨rfl, hin⟩ := hin
            cases hex
            have he : (am_tw ad cA h)[a]? = some (ad a, .inl (cA 0, n, .inl f)) := am_tw_get hh
            exact va_iald hx hb hK hP a 0 he rfl (am_ix_in hin) hd (kN lsC hl hll)
          next => cases hex
        next => cases hex
    next => cases hex
  case baload =>
    simp only [am_lo, beq_iff_eq] at hlo
    subst hlo
    simp only [am_exP, am_zald] at hex
    split at hex
    next i0 a r =>
      split at hex
      next t n f hh =>
        split at hex
        next hin =>
          obtain ⟨rfl, hin⟩ := hin
          cases hex
          have he : (am_tw ad cA h)[a]? = some (ad a, .inl (cA 2, n, .inl f)) := am_tw_get hh
          exact va_zald hx hb hK hP a 2 he rfl (am_ix_in hin) hd (kN lsC hl hll)
        next => cases hex
      next => cases hex
    next => cases hex
  case laload =>
    simp only [am_lo, beq_iff_eq] at hlo
    subst hlo
    simp only [am_exP, am_lald] at hex
    split at hex
    next i0 a r =>
      split at hex
      next t n f hh =>
        split at hex
        next hin =>
          obtain ⟨rfl, hin⟩ := hin
          cases hex
          have he : (am_tw ad cA h)[a]? = some (ad a, .inl (cA 1, n, .inr (.inl f))) := am_tw_get hh
          exact va_lald hx hb hK hP a 1 he rfl (am_ix_in hin) hd (kN lsC hl hll)
        next => cases hex
      next => cases hex
    next => cases hex
  case aaload =>
    simp only [am_lo, beq_iff_eq] at hlo
    subst hlo
    simp only [am_exP, am_aald] at hex
    split at hex
    next i0 a r =>
      split at hex
      next t n f hh =>
        split at hex
        next hin =>
          obtain ⟨ht, hin⟩ := hin
          cases hex
          have hkN := kN lsC hl hll
          rw [List.map_cons, am_tv_rf] at hkN
          rcases ht with rfl | rfl
          · have he : (am_tw ad cA h)[a]? = some (ad a, .inl (cA 3, n, .inr (.inr (.inr (.inr (fun j => (f j).map ad)))))) := am_tw_get hh
            have hin := am_ix_in hin
            have hlt : i0.toNatClampNeg < n := Nat.not_le.mp fun q => hin (Or.inr q)
            exact W.aald (v := va_rf ((f i0.toNatClampNeg).map ad)) (ty := .array .long) hx hb (hP a _ he) ((hK.2 3 _ rfl).1 n (fun j => va_rf ((f j).map ad))) rfl (fun q => by cases q) (by show ¬ (i0 < 0 ∨ (arrV _ _ _).slots.size ≤ _); rw [arrV_size]; exact hin) (by show (arrV _ _ _).slots[_]? = _; rw [arrV_read _ _ hlt]) rfl rfl hd hkN
          · have he : (am_tw ad cA h)[a]? = some (ad a, .inl (cA 4, n, .inr (.inr (.inr (.inr (fun j => (f j).map ad)))))) := am_tw_get hh
            exact va_aldq hx hb hK hP a 4 he rfl (am_ix_in hin) hd hkN
        next => cases hex
      next => cases hex
    next => cases hex
  case arraylength =>
    simp only [am_lo, beq_iff_eq] at hlo
    subst hlo
    simp only [am_exP, am_alen] at hex
    split at hex
    next a r =>
      split at hex
      next hax =>
        split at hex
        next hin =>
          cases hex
          obtain ⟨k0, hk0⟩ : ∃ k0, a = am_x0 + k0 := ⟨a - am_x0, (Nat.add_sub_cancel' hax).symm⟩
          subst hk0
          have hk3 : k0 < 3 := Nat.lt_of_add_lt_add_left hin
          have hkN := kN lsC hl hll
          rw [Nat.add_sub_cancel_left] at hkN
          obtain ⟨cell, g1, g2, g3, g4, g5, g6⟩ := (hE.1 k0 hk3).1.kept (hS.2.1 _ (hE.1 k0 hk3).1.lt (hE.1 k0 hk3).2)
          rw [hxa k0 hk3] at g1
          exact W.alen (n := Int32.ofNat (X k0).1) hx hb g1 g2 g5 rfl rfl hd hkN
        next => cases hex
      next hax =>
        split at hex
        next t n cc hh =>
          split at hex
          next ht =>
            cases hex
            have he : (am_tw ad cA h)[a]? = some (ad a, .inl (cA t, n, am_tc ad cc)) := am_tw_get hh
            have hkN := kN lsC hl hll
            obtain ⟨ty, hty⟩ : ∃ ty, (am_tys cA EC)[t]? = some (cA t, ty) := by
              have h5 : t = 0 ∨ t = 1 ∨ t = 2 ∨ t = 3 ∨ t = 4 := by omega
              rcases h5 with rfl | rfl | rfl | rfl | rfl <;> exact ⟨_, rfl⟩
            exact va_alen hx hb hK hP a t he hty rfl hd hkN
          next => cases hex
        next => cases hex
    next => cases hex
  case invokestatic k =>
    simp only [am_lo, beq_iff_eq] at hlo
    subst hlo
    simp only [am_exP, am_min] at hex
    split at hex
    next j na ci hy =>
      split at hex
      next y x r =>
        split at hex
        next hin =>
          cases hex
          obtain ⟨-, -, h6, -⟩ := hGY _ _ _ _ _ _ hy
          obtain ⟨q1, q2, q3, q4⟩ := h6 rfl
          exact va_mmin hx hb (by rw [hml, hl.1]) hown (hts _ q1) (hts _ q2) (hts _ q3) (hts _ q4) (by omega) (by rw [am_w_map]; omega) hcR hsR hd (kN lsC hl hll)
        next => cases hex
      next => cases hex
    next => cases hex
  case invokespecial k =>
    simp only [am_lo, beq_iff_eq] at hlo
    subst hlo
    simp only [am_exP, am_oi] at hex
    split at hex
    next j na ci hy =>
      split at hex
      next a r =>
        split at hex
        next hin =>
          cases hex
          obtain ⟨-, q5, -⟩ := hGY _ _ _ _ _ _ hy
          obtain ⟨q1, q2, q3⟩ := q5 rfl
          exact W.objInit hx hb hown (hts _ q1) (hts _ q2) (hts _ q3) (g := F0 m pc lsC (.ref (ad a) :: st'.map (am_tv ad))) rfl (by rw [hml]; exact hl.1) rfl hd (by omega) (by rw [am_w_map]; show 2 * 0 + _ + 12 ≤ _; omega) (kN lsC hl hll)
        next => cases hex
      next => cases hex
    next => cases hex
  all_goals cases hex
end AMP
end
section
/-! Instructions that change or make a cell -/
theorem am_innerC (c : ClassId) (K : Nat) : Jvm.Free.Multi.innerC c K (defaultValue .long) = vp_cell c (K, .inr (.inl (fun _ => 0))) := by
  rw [vp_cell_l, ← arrV_new]
  rfl
theorem am_assign (vm : Vm) (c : ClassId) : vm.assignable c c = true := by
  unfold Vm.assignable
  rw [show (256 : Nat) = 255 + 1 from rfl, Vm.assignableAux]
  simp
theorem am_sz_app (h g : am_H) : am_sz (h ++ g) = am_sz h + am_sz g := by simp [am_sz]
section AMH
variable {D : va_G} {cl : List vw_C} {cA : Nat → ClassId} {A : Nat → Prop} {ad : Nat → Nat}
theorem am_grow {h : am_H} {H1 : Heap} {q : Nat} {e : am_E} {E : va_E} {ls : am_L} {st : List Value} (hchk : am_chk ls st h = true) (he : am_te (va_up ad h.length q) cA e = E) (hP : va_P D cl (am_tw ad cA h ++ [(q, E)]) H1) (hD : va_D A (am_tw ad cA h ++ [(q, E)])) :
    va_P D cl (am_tw (va_up ad h.length q) cA (h ++ [e])) H1 ∧ va_D A (am_tw (va_up ad h.length q) cA (h ++ [e])) := by
  simp only [am_chk, Bool.and_eq_true, decide_eq_true_eq] at hchk
  obtain ⟨⟨⟨-, -⟩, hcl⟩, hn⟩ := hchk
  have hag := am_ag.up ad q hn
  have e1 : am_tw (va_up ad h.length q) cA (h ++ [e]) = am_tw (va_up ad h.length q) cA h ++ [(q, E)] := by
    unfold am_tw
    rw [List.mapIdx_concat, va_up_self, he]
  have hP1 : va_P D cl (am_tw ad cA h) H1 := fun k x hk => hP k x (by
    have hlt := (List.getElem?_eq_some_iff.mp hk).1
    rw [List.getElem?_append_left hlt]
    exact hk)
  have hP2 : va_P D cl [(q, E)] H1 := fun k x hk => hP (h.length + k) x (by
    rw [List.getElem?_append_right (by rw [am_tw_len]; omega), am_tw_len, Nat.add_sub_cancel_left]
    exact hk)
  rw [e1]
  refine ⟨va_P.app (am_te_push hag rfl hcl hP1) hP2, am_D_of hD fun k => ?_⟩
  by_cases hk : k < h.length
  · rw [List.getElem?_append_left (by rw [am_tw_len]; exact hk), List.getElem?_append_left (by rw [am_tw_len]; exact hk), am_tw_ad, am_tw_ad, if_pos hk, if_pos hk, hag k (Or.inl hk)]
  · rw [List.getElem?_append_right (by rw [am_tw_len]; omega), List.getElem?_append_right (by rw [am_tw_len]; omega), am_tw_len, am_tw_len]
def am_adM (ad : Nat → Nat) (n N q : Nat) (r : Nat → Nat) : Nat → Nat := fun k => if k < n then ad k else if k = n then q else if k < n + 1 + N then r (k - n - 1) else ad k
theorem am_adM_ag (ad : Nat → Nat) (n N q : Nat) (r : Nat → Nat) (hn : n < 1000) (hN : N ≤ 100) : am_ag n ad (am_adM ad n N q r) := by
  intro k hk
  unfold am_adM
  unfold am_x0 at hk
  rcases hk with hk | hk
  · rw [if_pos hk]
  · rw [if_neg (by omega), if_neg (by omega), if_neg (by omega)]
theorem am_adM_n (ad : Nat → Nat) (n N q : Nat) (r : Nat → Nat) : am_adM ad n N q r n = q := by
  unfold am_adM
  rw [if_neg (by omega), if_pos rfl]
theorem am_adM_i (ad : Nat → Nat) (n N q : Nat) (r : Nat → Nat) {i : Nat} (hi : i < N) : am_adM ad n N q r (n + 1 + i) = r i := by
  unfold am_adM
  rw [if_neg (by omega), if_neg (by omega), if_pos (by omega)]
  congr 1
  omega
theorem am_growM {h : am_H} {H1 : Heap} {q N K : Nat} {r : Nat → Nat} {ls : am_L} {st : List Value} (hchk : am_chk ls st h = true) (hN : N ≤ 100)
    (hP : va_P D cl ((am_tw ad cA h ++ [(q, .inl (cA 3, N, .inr (.inr (.inr (.inr (fun i => if i < N then some (r i) else none))))))]) ++ (List.range N).map (fun i => (r i, .inl (cA 1, K, .inr (.inl (fun _ => 0)))))) H1) (hD : va_D A ((am_tw ad cA h ++ [(q, .inl (cA 3, N, .inr (.inr (.inr (.inr (fun i => if i < N then some (r i) else none))))))]) ++ (List.range N).map (fun i => (r i, .inl (cA 1, K, .inr (.inl (fun _ => 0))))))) :
    va_P D cl (am_tw (am_adM ad h.length N q r) cA (h ++ .inl (3, N, .inr (.inr (.inr (.inr (fun i => if i < N then some (h.length + 1 + i) else none))))) :: List.replicate N (.inl (1, K, .inr (.inl (fun _ => 0)))))) H1 ∧ va_D A (am_tw (am_adM ad h.length N q r) cA (h ++ .inl (3, N, .inr (.inr (.inr (.inr (fun i => if i < N then some (h.length + 1 + i) else none))))) :: List.replicate N (.inl (1, K, .inr (.inl (fun _ => 0)))))) := by
  simp only [am_chk, Bool.and_eq_true, decide_eq_true_eq] at hchk
  obtain ⟨⟨⟨-, -⟩, hcl⟩, hn⟩ := hchk
  have hag := am_adM_ag ad h.length N q r hn hN
  have e0 : am_te (am_adM ad h.length N q r) cA (.inl (3, N, .inr (.inr (.inr (.inr (fun i => if i < N then some (h.length + 1 + i) else none)))))) = .inl (cA 3, N, .inr (.inr (.inr (.inr (fun i => if i < N then some (r i) else none))))) := by
    have e1 : (fun j => Option.map (am_adM ad h.length N q r) (if j < N then some (h.length + 1 + j) else none)) = fun i => if i < N then some (r i) else none := by
      funext i
      by_cases hi : i < N
      · rw [if_pos hi, if_pos hi, Option.map_some, am_adM_i ad _ _ _ _ hi]
      · rw [if_neg hi, if_neg hi]
        rfl
    simp only [am_te, am_tc, e1]
  have e2 : am_tw (am_adM ad h.length N q r) cA (h ++ .inl (3, N, .inr (.inr (.inr (.inr (fun i => if i < N then some (h.length + 1 + i) else none))))) :: List.replicate N (.inl (1, K, .inr (.inl (fun _ => 0))))) = am_tw (am_adM ad h.length N q r) cA h ++ ((q, .inl (cA 3, N, .inr (.inr (.inr (.inr (fun i => if i < N then some (r i) else none)))))) :: (List.range N).map (fun i => (r i, .inl (cA 1, K, .inr (.inl (fun _ => 0)))))) := by
    unfold am_tw
    rw [List.mapIdx_append, List.mapIdx_cons, Nat.zero_add, am_adM_n, e0]
    congr 2
    apply List.ext_getElem?
    intro i
    by_cases hi : i < N
    · rw [List.getElem?_mapIdx, List.getElem?_map, List.getElem?_replicate, List.getElem?_range hi, if_pos hi]
      simp only [Option.map_some]
      rw [show i + 1 + h.length = h.length + 1 + i by omega, am_adM_i ad _ _ _ _ hi]
      rfl
    · rw [List.getElem?_eq_none (by simp; omega), List.getElem?_eq_none (by simp; omega)]
  rw [List.append_assoc] at hP hD
  have hP1 : va_P D cl (am_tw ad cA h) H1 := fun k x hk => hP k x (by
    have hlt := (List.getElem?_eq_some_iff.mp hk).1
    rw [List.getElem?_append_left hlt]
    exact hk)
  have hP2 : va_P D cl ((q, .inl (cA 3, N, .inr (.inr (.inr (.inr (fun i => if i < N then some (r i) else none)))))) :: (List.range N).map (fun i => (r i, .inl (cA 1, K, .inr (.inl (fun _ => 0)))))) H1 := fun k x hk => hP (h.length + k) x (by
    rw [List.getElem?_append_right (by rw [am_tw_len]; omega), am_tw_len, Nat.add_sub_cancel_left]
    exact hk)
  rw [e2]
  refine ⟨va_P.app (am_te_push hag rfl hcl hP1) hP2, am_D_of hD fun k => ?_⟩
  by_cases hk : k < h.length
  · rw [List.getElem?_append_left (by rw [am_tw_len]; exact hk), List.getElem?_append_left (by rw [am_tw_len]; exact hk), am_tw_ad, am_tw_ad, if_pos hk, if_pos hk, hag k (Or.inl hk)]
  · rw [List.getElem?_append_right (by rw [am_tw_len]; omega), List.getElem?_append_right (by rw [am_tw_len]; omega), am_tw_len, am_tw_len]
    rfl
end AMH
section AMQ
variable {P : am_P} {X : am_X} {cl : List vw_C} {WS NW : List Cond} {ST : Nat → String × String × String} {EC : String} {D : va_G} {cA : Nat → ClassId} {l : Launch} {d : Nat} {M : am_M} {pc pc' len : Nat} {ls ls' : am_L} {st st' : List Value} {h h1 : am_H}
variable {p : Program} {e : Env} {R : Room} {s : State} {m : MethodId} {args : Array Value} {below : List Frame} {meth : Method} {c : Code} {H : Heap} {locs : List Loc} {cells slots : Nat} {A : Nat → Prop} {ad xa : Nat → Nat} {lsC : Array Slot} {Q : State → Prop}
theorem am_vt_ok {t : Nat} {v : Value} {ty : FieldType} (h : am_vt t v = true) (h0 : t = 0 → ty = .int) (h1 : t = 1 → ty = .long) (h2 : t = 2 → (∃ n, ty = .object n) ∨ ∃ u, ty = .array u) (ad : Nat → Nat) : narrow ty (am_tv ad v) = am_tv ad v ∧ fits ty (am_tv ad v) = true := by
  unfold am_vt at h
  split at h
  · rw [h0 rfl]
    exact ⟨rfl, rfl⟩
  · rw [h1 rfl]
    exact ⟨rfl, rfl⟩
  · rcases h2 rfl with ⟨n, rfl⟩ | ⟨u, rfl⟩
    · exact ⟨rfl, rfl⟩
    · exact ⟨rfl, rfl⟩
  · cases h
/-- a row of longs into an array of such rows -/
theorem am_astA {cc : ByteArray} {ws : va_W} {rest : List Value} {a v n k2 : Nat} {f : Nat → Option Nat} {g : Nat → Int64} {i0 : Int32} (hx : p.tables.exec = Jvm.exec) (hb : c.code = cc) (hK : va_K D cl (am_tys cA EC) s) (hP : va_P D cl ws H) (hD : va_D A ws) (hS : va_S A s.heap H locs) {q0 qk : Nat}
    (hov : (Cond.arrayOver (.array .long)).before args s = true) (ha : ws[q0]? = some (a, .inl (cA 3, n, .inr (.inr (.inr (.inr f)))))) (hv : ws[qk]? = some (v, .inl (cA 1, k2, .inr (.inl g)))) (hin : vp_in i0 n) (hd : decode cc pc = .ok (.aastore, 1))
    (kk : ∀ (H1 : Heap) (locs1 : List Loc), va_P D cl (ws.set q0 (a, .inl (cA 3, n, .inr (.inr (.inr (.inr (va_up f i0.toNatClampNeg (some v)))))))) H1 → va_D A (ws.set q0 (a, .inl (cA 3, n, .inr (.inr (.inr (.inr (va_up f i0.toNatClampNeg (some v)))))))) → va_S A s.heap H1 locs1 → W p l e R s m args below meth c H1 locs1 cells slots Q (F0 m (pc + 1) lsC rest)) :
    W p l e R s m args below meth c H locs cells slots Q (F0 m pc lsC (.ref v :: .int i0 :: .ref a :: rest)) := by
  have hlt : i0.toNatClampNeg < n := Nat.not_le.mp fun q => hin (Or.inr q)
  have h0 : ¬ i0 < 0 := fun q => hin (Or.inl q)
  obtain ⟨comp, cA', kA, hcomp, -, hkA, hkindA, hnameA⟩ := arrayOverA_spec hov
  have e3 : s.vm.findClass ("[" ++ (FieldType.array .long).toString) = some (cA 3) := (hK.2 3 _ rfl).2
  cases hnameA.symm.trans e3
  have e1 : s.vm.findClass (FieldType.array .long).toString = some (cA 1) := (hK.2 1 _ rfl).2
  cases hcomp.symm.trans e1
  obtain ⟨-, k1, hk1, cm1, hkk1⟩ := (hK.2 1 _ rfl).1 k2 (fun j => .long (g j))
  have hcv : H[v]? = some (arrV (cA 1) k2 (fun j => .long (g j))) := hP qk _ hv
  refine W.aast hx hb (hP q0 _ ha) (fun q h => by cases h) (fun h => by cases h) hkA hkindA rfl hk1 ⟨h0, by show _ < (arrV _ _ _).slots.size; rw [arrV_size]; exact hlt⟩ hcv (fun q h => by cases h) hk1 (am_assign _ _) rfl rfl hd fun H1 e z oq => ?_
  refine kk H1 _ (hP.set hD ha ?_ oq) (hD.set ha) (hS.put z oq (hD.2 q0 _ ha))
  show H1[a]? = some (vp_cell _ _)
  rw [e]
  rw [vp_cell_q, vp_cell_q, arrV_store]
  congr 2
  funext q
  by_cases hq : q = i0.toNatClampNeg
  · subst hq
    simp [updV, va_up, va_rf]
  · simp [updV, va_up, hq]
set_option maxHeartbeats 4000000 in
theorem am_heap (hG : am_G P cl WS NW ST EC) (i : Instr) (hC : am_C P.2.2.2.2.2.2.2 X NW ST WS D cl cA EC xa A M p s m args meth c) (hJ : am_J D cl cA A s.heap ad H locs h) (hl : lv_has lsC M.2.2.1 (am_as ad 0 ls)) (hll : ls.length = M.2.2.1) (hd : decode M.2.1 pc = .ok (i, len)) (hlo : am_lo i len = true) (hpf : ∀ k ci i0 t : Nat, i = .putfield k → P.2.1 M.2.2.2.2.1 k = some (2, ci, i0, t) → M.1.name = "<init>")
    (hRf : d ≤ R.frames) (hRl : 40 * d ≤ R.locals) (hcR : cells + h1.length ≤ R.cells + h.length) (hsR : slots + am_sz h1 ≤ R.slots + am_sz h)
    (hex : am_exH P d M i pc ls st h = some (pc', ls', st', h1)) (hm : h.length ≤ h1.length ∧ am_sz h ≤ am_sz h1)
    (kH : ∀ (ad' : Nat → Nat) (H1 : Heap) (locs1 : List Loc) (cells1 slots1 : Nat), am_ag h.length ad ad' → (h1.length = h.length → ad' = ad) → am_J D cl cA A s.heap ad' H1 locs1 h1 → lv_has lsC M.2.2.1 (am_as ad' 0 ls') → ls'.length = M.2.2.1 → cells1 + h.length ≤ cells + h1.length → slots1 + am_sz h ≤ slots + am_sz h1 →
      W p l e R s m args below meth c H1 locs1 cells1 slots1 Q (F0 m pc' lsC (st'.map (am_tv ad')))) :
    W p l e R s m args below meth c H locs cells slots Q (F0 m pc lsC (st.map (am_tv ad))) := by
  obtain ⟨hx, hb, hml, hr, hts, hown, hlk, hnm, hK, hA, hE⟩ := hC
  obtain ⟨hP, hD, hS⟩ := hJ
  obtain ⟨-, hGF, hGC, hGN, hGY, -, hGS, -⟩ := hG
  -- a cell that was there gets new contents
  have setk : ∀ (k : Nat) (e0 : am_E) (H1 : Heap) (locs1 : List Loc), h1 = h.set k e0 → ls' = ls → va_P D cl ((am_tw ad cA h).set k (ad k, am_te ad cA e0)) H1 → va_D A ((am_tw ad cA h).set k (ad k, am_te ad cA e0)) → va_S A s.heap H1 locs1 → W p l e R s m args below meth c H1 locs1 cells slots Q (F0 m pc' lsC (st'.map (am_tv ad))) := by
    intro k e0 H1 locs1 e1 e2 g1 g2 g3
    rw [← am_tw_set, ← e1] at g1 g2
    exact kH ad H1 locs1 cells slots (am_ag.rf _ _) (fun _ => rfl) ⟨g1, g2, g3⟩ (by rw [e2]; exact hl) (by rw [e2]; exact hll) (by omega) (by omega)
  -- a new cell
  have newk : ∀ (r : List Value) (e0 : am_E) (q : Nat) (E : va_E) (H1 : Heap), am_chk ls r h = true → h1 = h ++ [e0] → ls' = ls → st' = .ref h.length :: r → (∀ ad' : Nat → Nat, am_te ad' cA e0 = E) → va_P D cl (am_tw ad cA h ++ [(q, E)]) H1 → va_D A (am_tw ad cA h ++ [(q, E)]) → va_S A s.heap H1 locs → W p l e R s m args below meth c H1 locs (cells + 1) (slots + am_se e0) Q (F0 m pc' lsC (.ref q :: r.map (am_tv ad))) := by
    intro r e0 q E H1 hchk e1 e2 e3 hE0 g1 g2 g3
    obtain ⟨g4, g5⟩ := am_grow (e := e0) (E := E) hchk (hE0 _) g1 g2
    have hchk' := hchk
    simp only [am_chk, Bool.and_eq_true, decide_eq_true_eq] at hchk'
    obtain ⟨⟨⟨hc1, hc2⟩, -⟩, hn⟩ := hchk'
    have hag := am_ag.up ad q hn
    have hlen : h1.length = h.length + 1 := by rw [e1]; simp
    have hsz : am_sz h1 = am_sz h + am_se e0 := by rw [e1, am_sz_app]; simp [am_sz]
    have := kH (va_up ad h.length q) H1 locs (cells + 1) (slots + am_se e0) hag (fun z => by omega) (by rw [e1]; exact ⟨g4, g5, g3⟩) (by rw [e2, am_co_as hag _ _ hc1]; exact hl) (by rw [e2]; exact hll) (by omega) (by omega)
    rw [e3, List.map_cons, am_cs_map hag hc2] at this
    have e4 : am_tv (va_up ad h.length q) (.ref h.length) = .ref q := by
      show Value.ref (va_up ad h.length q h.length) = .ref q
      rw [va_up_self]
    rw [e4] at this
    exact this
  cases i
  case putfield k =>
    simp only [am_lo, beq_iff_eq] at hlo
    subst hlo
    simp only [am_exH, am_put] at hex
    split at hex
    next v a r =>
      split at hex
      next kd ci i0 t hF =>
        split at hex
        next cj fs hh =>
          split at hex
          next hcnd =>
            obtain ⟨rfl, hi0, hvt, hkd⟩ := hcnd
            cases hex
            obtain ⟨C, T, N, ty, hc, hi, hk4, h02, h13, hnf, hfn, hpd, ht0, ht1, ht2⟩ := hGF _ _ _ _ _ _ hF
            obtain ⟨hws, ⟨ty0, hty0⟩, hnms⟩ := hGC _ _ _ _ hc
            obtain ⟨hn1, hn2⟩ := am_vt_ok hvt ht0 ht1 ht2 ad
            have he : (am_tw ad cA h)[a]? = some (ad a, .inr (cj, fs.map (am_tv ad))) := am_tw_get hh
            have hte : am_te ad cA (.inr (cj, fs.set i0 v)) = .inr (cj, (fs.map (am_tv ad)).set i0 (am_tv ad v)) := by simp only [am_te, List.map_set]
            have fin : ∀ (H1 : Heap) (locs1 : List Loc), va_P D cl ((am_tw ad cA h).set a (ad a, .inr (cj, (fs.map (am_tv ad)).set i0 (am_tv ad v)))) H1 → va_D A ((am_tw ad cA h).set a (ad a, .inr (cj, (fs.map (am_tv ad)).set i0 (am_tv ad v)))) → va_S A s.heap H1 locs1 → W p l e R s m args below meth c H1 locs1 cells slots Q (F0 m (pc + 3) lsC (st'.map (am_tv ad))) := fun H1 locs1 g1 g2 g3 => setk a _ H1 locs1 rfl rfl (by rw [hte]; exact g1) (by rw [hte]; exact g2) g3
            have hkd3 : kd = 0 ∨ kd = 1 ∨ kd = 2 := by omega
            rcases hkd3 with hkd | hkd | hkd
            · exact va_put (D := D) (ci := cj) (v := am_tv ad v) (ty := ty) hx hb hts hws ty0 hty0 hnms hown hK hP hD hS a he hc i0 hi (hts _ (h02 (Or.inl hkd))) (fun _ z => z) (hnf (Or.inl hkd)) hpd hn1 hn2 (by rw [List.length_map]; exact hi0) hd fin
            · obtain ⟨host, hho⟩ := h13 (Or.inl hkd)
              exact va_putN (D := D) (ci := cj) (v := am_tv ad v) (ty := ty) (host := host) hx hb hts hws ty0 hty0 hnms hown hK hP hD hS a he hc i0 hi (va_Nw.use rfl (hE.2.2.1 _ hho)) (fun _ z => z) (hnf (Or.inr hkd)) hpd hn1 hn2 (by rw [List.length_map]; exact hi0) hd fin
            · exact va_putF (D := D) (ci := cj) (v := am_tv ad v) (ty := ty) hx hb hts hws ty0 hty0 hnms hown hK hP hD hS a he hc i0 hi (hts _ (h02 (Or.inr hkd))) (fun _ z => z) (hfn hkd).1 (hnm (hpf _ _ _ _ rfl (hkd ▸ hF))) (hfn hkd).2 hpd hn1 hn2 (by rw [List.length_map]; exact hi0) hd fin
          next => cases hex
        next => cases hex
      next => cases hex
    next => cases hex
  case iastore =>
    simp only [am_lo, beq_iff_eq] at hlo
    subst hlo
    simp only [am_exH, am_iast] at hex
    split at hex
    next x i0 a r =>
      split at hex
      next t n f hh =>
        split at hex
        next hin =>
          obtain ⟨rfl, hin⟩ := hin
          cases hex
          have he : (am_tw ad cA h)[a]? = some (ad a, .inl (cA 0, n, .inl f)) := am_tw_get hh
          exact va_iast hx hb hK hP hD hS a 0 he rfl (am_ix_in hin) hd (fun H1 locs1 g1 g2 g3 => setk a _ H1 locs1 rfl rfl g1 g2 g3)
        next => cases hex
      next => cases hex
    next => cases hex
  case bastore =>
    simp only [am_lo, beq_iff_eq] at hlo
    subst hlo
    simp only [am_exH, am_zast] at hex
    split at hex
    next x i0 a r =>
      split at hex
      next t n f hh =>
        split at hex
        next hin =>
          obtain ⟨rfl, hin⟩ := hin
          cases hex
          have he : (am_tw ad cA h)[a]? = some (ad a, .inl (cA 2, n, .inl f)) := am_tw_get hh
          exact va_zast hx hb hK hP hD hS a 2 he rfl (am_ix_in hin) hd (fun H1 locs1 g1 g2 g3 => setk a _ H1 locs1 rfl rfl g1 g2 g3)
        next => cases hex
      next => cases hex
    next => cases hex
  case lastore =>
    simp only [am_lo, beq_iff_eq] at hlo
    subst hlo
    simp only [am_exH, am_last] at hex
    split at hex
    next x i0 a r =>
      split at hex
      next t n f hh =>
        split at hex
        next hin =>
          obtain ⟨rfl, hin⟩ := hin
          cases hex
          have he : (am_tw ad cA h)[a]? = some (ad a, .inl (cA 1, n, .inr (.inl f))) := am_tw_get hh
          exact va_last hx hb hK hP hD hS a 1 he rfl (am_ix_in hin) hd (fun H1 locs1 g1 g2 g3 => setk a _ H1 locs1 rfl rfl g1 g2 g3)
        next => cases hex
      next => cases hex
    next => cases hex
  case aastore =>
    simp only [am_lo, beq_iff_eq] at hlo
    subst hlo
    simp only [am_exH, am_aast] at hex
    split at hex
    next v i0 a r =>
      split at hex
      next t n f hh =>
        have hup : ∀ t0 : Nat, am_te ad cA (.inl (t0, n, .inr (.inr (.inr (.inr (va_up f i0.toNatClampNeg (some v))))))) = .inl (cA t0, n, .inr (.inr (.inr (.inr (va_up (fun j => (f j).map ad) i0.toNatClampNeg (some (ad v))))))) := by
          intro t0
          have e0 : (fun j => Option.map ad (va_up f i0.toNatClampNeg (some v) j)) = va_up (fun j => (f j).map ad) i0.toNatClampNeg (some (ad v)) := by
            funext j
            by_cases hj : j = i0.toNatClampNeg
            · subst hj
              rw [va_up_self, va_up_self]
              rfl
            · rw [va_up_ne _ _ hj, va_up_ne _ _ hj]
          simp only [am_te, am_tc, e0]
        split at hex
        next ci fs hv =>
          split at hex
          next hin =>
            obtain ⟨rfl, rfl, hin⟩ := hin
            cases hex
            obtain ⟨⟨T, N, hec⟩, -⟩ := hGN
            have he : (am_tw ad cA h)[a]? = some (ad a, .inl (cA 4, n, .inr (.inr (.inr (.inr (fun j => (f j).map ad)))))) := am_tw_get hh
            have he2 : (am_tw ad cA h)[v]? = some (ad v, .inr (P.2.2.2.2.2.2.1, fs.map (am_tv ad))) := am_tw_get hv
            exact va_astq hx hb hK hP hD hS a 4 v P.2.2.2.2.2.2.1 (r := (EC, T, N)) he rfl he2 hec (am_ix_in hin) hd (fun H1 locs1 g1 g2 g3 => setk a _ H1 locs1 rfl rfl (by rw [hup]; exact g1) (by rw [hup]; exact g2) g3)
          next => cases hex
        next u k2 g hv =>
          split at hex
          next hin =>
            obtain ⟨rfl, rfl, hin⟩ := hin
            cases hex
            have he : (am_tw ad cA h)[a]? = some (ad a, .inl (cA 3, n, .inr (.inr (.inr (.inr (fun j => (f j).map ad)))))) := am_tw_get hh
            have he2 : (am_tw ad cA h)[v]? = some (ad v, .inl (cA 1, k2, .inr (.inl g))) := am_tw_get hv
            exact am_astA hx hb hK hP hD hS hE.2.2.2.2 he he2 (am_ix_in hin) hd (fun H1 locs1 g1 g2 g3 => setk a _ H1 locs1 rfl rfl (by rw [hup]; exact g1) (by rw [hup]; exact g2) g3)
          next => cases hex
        next => cases hex
      next => cases hex
    next => cases hex
  case newarray ty =>
    simp only [am_lo, beq_iff_eq] at hlo
    subst hlo
    simp only [am_exH, am_newa] at hex
    split at hex
    next n r =>
      split at hex
      next hin =>
        obtain ⟨hn0, hnN, hchk⟩ := hin
        have hcs : ∀ e0 : am_E, h1 = h ++ [e0] → cells + 1 ≤ R.cells ∧ slots + am_se e0 ≤ R.slots := by
          intro e0 e1
          have hlen : h1.length = h.length + 1 := by rw [e1]; simp
          have hsz : am_sz h1 = am_sz h + am_se e0 := by rw [e1, am_sz_app]; simp [am_sz]
          omega
        cases ty
        case int =>
          cases hex
          obtain ⟨q1, q2⟩ := hcs _ rfl
          refine va_newa (atype := .int) (ty := .int) (N' := n.toNatClampNeg) (a0 := (n.toNatClampNeg, .inl (fun _ => 0))) hx hb (hts _ hGS.2.2.2.1) rfl hK hP hD hS hA (fun _ => rfl) hn0 rfl (Nat.le_trans (Nat.mul_le_mul_right _ hnN) (by decide)) q1 q2 hd (fun q cA' H1 hK' g1 g2 g3 => ?_)
          have e1 : s.vm.findClass ("[" ++ (FieldType.int).toString) = some cA' := (hK'.2 5 _ rfl).2
          have e2 : s.vm.findClass ("[" ++ (FieldType.int).toString) = some (cA 0) := (hK.2 0 _ rfl).2
          cases e1.symm.trans e2
          exact newk r _ q _ H1 hchk rfl rfl rfl (fun _ => rfl) g1 g2 g3
        case long =>
          cases hex
          obtain ⟨q1, q2⟩ := hcs _ rfl
          refine va_newa (atype := .long) (ty := .long) (N' := n.toNatClampNeg) (a0 := (n.toNatClampNeg, .inr (.inl (fun _ => 0)))) hx hb (hts _ hGS.2.2.2.2.1) rfl hK hP hD hS hA (fun _ => rfl) hn0 rfl (Nat.le_trans (Nat.mul_le_mul_right _ hnN) (by decide)) q1 q2 hd (fun q cA' H1 hK' g1 g2 g3 => ?_)
          have e1 : s.vm.findClass ("[" ++ (FieldType.long).toString) = some cA' := (hK'.2 5 _ rfl).2
          have e2 : s.vm.findClass ("[" ++ (FieldType.long).toString) = some (cA 1) := (hK.2 1 _ rfl).2
          cases e1.symm.trans e2
          exact newk r _ q _ H1 hchk rfl rfl rfl (fun _ => rfl) g1 g2 g3
        case boolean =>
          cases hex
          obtain ⟨q1, q2⟩ := hcs _ rfl
          refine va_newa (atype := .boolean) (ty := .boolean) (N' := n.toNatClampNeg) (a0 := (n.toNatClampNeg, .inl (fun _ => 0))) hx hb (hts _ hGS.2.2.2.2.2) rfl hK hP hD hS hA (fun _ => rfl) hn0 rfl (Nat.le_trans (Nat.mul_le_mul_right _ hnN) (by decide)) q1 q2 hd (fun q cA' H1 hK' g1 g2 g3 => ?_)
          have e1 : s.vm.findClass ("[" ++ (FieldType.boolean).toString) = some cA' := (hK'.2 5 _ rfl).2
          have e2 : s.vm.findClass ("[" ++ (FieldType.boolean).toString) = some (cA 2) := (hK.2 2 _ rfl).2
          cases e1.symm.trans e2
          exact newk r _ q _ H1 hchk rfl rfl rfl (fun _ => rfl) g1 g2 g3
        all_goals cases hex
      next => cases hex
    next => cases hex
  case anewarray k =>
    simp only [am_lo, beq_iff_eq] at hlo
    subst hlo
    simp only [am_exH, am_newq] at hex
    split at hex
    next ci fs hN =>
      split at hex
      next hci =>
        split at hex
        next n r =>
          split at hex
          next hin =>
            obtain ⟨hn0, hnN, hchk⟩ := hin
            cases hex
            obtain ⟨⟨T0, N0, hec⟩, hnew⟩ := hGN
            obtain ⟨C, T, N, ty, hc, hlink, -⟩ := hnew _ _ _ _ hN
            rw [hci, hec] at hc
            cases hc
            have hlen : (h ++ [(.inl (4, n.toNatClampNeg, .inr (.inr (.inr (.inr (fun _ => none))))) : am_E)]).length = h.length + 1 := by simp
            have hsz : am_sz (h ++ [(.inl (4, n.toNatClampNeg, .inr (.inr (.inr (.inr (fun _ => none))))) : am_E)]) = am_sz h + n.toNatClampNeg := by rw [am_sz_app]; simp [am_sz, am_se]
            refine va_newq (C := EC) (N' := n.toNatClampNeg) hx hb hown (hts _ hlink) hE.2.2.2.1 hK hP hD hS hA hn0 rfl (Nat.le_trans (Nat.mul_le_mul_right _ hnN) (by decide)) (by omega) (by omega) hd (fun q cA' H1 hK' g1 g2 g3 => ?_)
            obtain ⟨kA, comp, -, -, -, e1⟩ := (hK'.2 5 _ rfl).2
            obtain ⟨kA2, comp2, -, -, -, e2⟩ := (hK.2 4 _ rfl).2
            cases e1.symm.trans e2
            exact newk r _ q _ H1 hchk rfl rfl rfl (fun _ => rfl) g1 g2 g3
          next => cases hex
        next => cases hex
      next => cases hex
    next => cases hex
  case new k =>
    simp only [am_lo, beq_iff_eq] at hlo
    subst hlo
    simp only [am_exH, am_new] at hex
    split at hex
    next ci fs hN =>
      split at hex
      next hchk =>
        cases hex
        obtain ⟨-, hnew⟩ := hGN
        obtain ⟨C, T, N, ty, hc, hlink, hinst, hini, hfl, hty, hdf, hmap⟩ := hnew _ _ _ _ hN
        have hlen : (h ++ [(.inr (ci, fs) : am_E)]).length = h.length + 1 := by simp
        have hsz : am_sz (h ++ [(.inr (ci, fs) : am_E)]) = am_sz h + fs.length := by rw [am_sz_app]; simp [am_sz, am_se]
        refine va_new (ci := ci) (fs := fs) (C := C) (T := T) (N := N) hx hb hts (hGC _ _ _ _ hc).1 ty hty hown (hts _ hlink) (hts _ hinst) (hts _ hini) hK hP hD hS hA hc hdf (by omega) (by omega) hd (fun q H1 g1 g2 g3 => ?_)
        have := newk st (.inr (ci, fs)) q (.inr (ci, fs)) H1 hchk rfl rfl rfl (fun ad' => by simp only [am_te]; rw [hmap]) g1 g2 g3
        have e1 : am_se (.inr (ci, fs)) = N := hfl
        rw [e1] at this
        exact this
      next => cases hex
    next => cases hex
  case invokestatic k =>
    simp only [am_lo, beq_iff_eq] at hlo
    subst hlo
    simp only [am_exH, am_cpy] at hex
    split at hex
    next j na ci hy =>
      split at hex
      next n dp b sp a r =>
        split at hex
        next n0 f ha =>
          split at hex
          next n1 g hb0 =>
            split at hex
            next hin =>
              obtain ⟨hd0, hw8, k1, k2, k3, k4, k5⟩ := hin
              cases hex
              obtain ⟨-, -, -, h7⟩ := hGY _ _ _ _ _ _ hy
              obtain ⟨q1, q2, q3, q4⟩ := h7 rfl
              have he0 : (am_tw ad cA h)[a]? = some (ad a, .inl (cA 1, n0, .inr (.inl f))) := am_tw_get ha
              have he1 : (am_tw ad cA h)[b]? = some (ad b, .inl (cA 1, n1, .inr (.inl g))) := am_tw_get hb0
              have hnf : nativeFrameWords "java/lang/System" "arraycopy" 5 ≤ 20 := by decide
              exact va_copyl hx hb (by rw [hml, hl.1]) hown (hts _ q1) (hts _ q2) (hts _ q3) (hts _ q4) hK hP hD hS a b 1 1 (ty := .long) he0 he1 rfl rfl rfl k1 k2 k3 k4 k5 (fun _ _ => rfl) (by omega) (by rw [am_w_map]; omega) hd (fun H1 locs1 g1 g2 g3 => setk b _ H1 locs1 rfl rfl g1 g2 g3)
            next => cases hex
          next => cases hex
        next => cases hex
      next => cases hex
    next => cases hex
  case multianewarray k n0 =>
    simp only [am_lo, beq_iff_eq] at hlo
    subst hlo
    by_cases hn2 : n0 = 2
    · subst hn2
      simp only [am_exH, am_newm] at hex
      split at hex
      next h77 =>
        split at hex
        next k2 n r =>
          split at hex
          next hin =>
            obtain ⟨hn0, hnN, hk0, hkK, hchk⟩ := hin
            cases hex
            have hlen : (h ++ (.inl (3, n.toNatClampNeg, .inr (.inr (.inr (.inr (fun i => if i < n.toNatClampNeg then some (h.length + 1 + i) else none))))) : am_E) :: List.replicate n.toNatClampNeg (.inl (1, k2.toNatClampNeg, .inr (.inl (fun _ => 0))))).length = h.length + (1 + n.toNatClampNeg) := by simp; omega
            have hsz : am_sz (h ++ (.inl (3, n.toNatClampNeg, .inr (.inr (.inr (.inr (fun i => if i < n.toNatClampNeg then some (h.length + 1 + i) else none))))) : am_E) :: List.replicate n.toNatClampNeg (.inl (1, k2.toNatClampNeg, .inr (.inl (fun _ => 0))))) = am_sz h + (n.toNatClampNeg + n.toNatClampNeg * k2.toNatClampNeg) := by
              rw [am_sz_app]
              simp [am_sz, am_se]
            have hcy : s.vm.findClass (FieldType.array .long).toString = some (cA 1) := (hK.2 1 _ rfl).2
            have hlink : Cond.classLink (P.2.2.2.2.2.2.2 M.2.2.2.2.1) k ("[" ++ (FieldType.array .long).toString) ∈ WS := hGS.2.1 _ _ h77
            refine va_mna (X := am_tw ad cA h) (L := []) (f := fun _ => .inr (0, [])) (ty := .long) (cy := cA 1) (N' := n.toNatClampNeg) (K' := k2.toNatClampNeg) (z := (k2.toNatClampNeg, .inr (.inl (fun _ => 0)))) hx hb hown (hts _ hlink) hE.2.2.2.2 (hts _ hGS.2.2.2.2.1) hcy hK (by rw [show va_pl [] (fun _ => (.inr (0, []) : va_E)) = [] from rfl, List.append_nil]; exact hP) (by rw [show va_pl [] (fun _ => (.inr (0, []) : va_E)) = [] from rfl, List.append_nil]; exact hD) hS hA hn0 hk0 rfl rfl (Nat.le_trans (Nat.mul_le_mul_right _ hnN) (by decide)) (Nat.le_trans (Nat.mul_le_mul_right _ hkK) (by decide)) (Nat.le_trans hkK (by decide)) rfl rfl (by omega) (by omega) (fun c => am_innerC c _) hd (fun q rr cA' H1 _ _ hK' g1 g2 g3 => ?_)
            have e1 : s.vm.findClass ("[" ++ (FieldType.array .long).toString) = some cA' := (hK'.2 5 _ rfl).2
            have e2 : s.vm.findClass ("[" ++ (FieldType.array .long).toString) = some (cA 3) := (hK.2 3 _ rfl).2
            cases e1.symm.trans e2
            have e3 : va_pl ([] ++ (List.range n.toNatClampNeg).map rr) (vr_up (fun _ => (.inr (0, []) : va_E)) ((List.range n.toNatClampNeg).map rr) (.inl (cA 1, (k2.toNatClampNeg, .inr (.inl (fun _ => 0)))))) = (List.range n.toNatClampNeg).map (fun i => (rr i, .inl (cA 1, k2.toNatClampNeg, .inr (.inl (fun _ => 0))))) := by
              unfold va_pl
              rw [List.nil_append, List.map_map]
              apply List.map_congr_left
              intro i hi
              show (rr i, _) = _
              rw [vr_up_in (List.mem_map.mpr ⟨i, hi, rfl⟩)]
            rw [e3] at g1 g2
            obtain ⟨g4, g5⟩ := am_growM hchk hnN g1 g2
            have hchk' := hchk
            simp only [am_chk, Bool.and_eq_true, decide_eq_true_eq] at hchk'
            obtain ⟨⟨⟨hc1, hc2⟩, -⟩, hn⟩ := hchk'
            have hag := am_adM_ag ad h.length n.toNatClampNeg q rr hn hnN
            have := kH (am_adM ad h.length n.toNatClampNeg q rr) H1 locs (cells + 1 + n.toNatClampNeg) (slots + n.toNatClampNeg + n.toNatClampNeg * k2.toNatClampNeg) hag (fun z => by omega) ⟨g4, g5, g3⟩ (by rw [am_co_as hag _ _ hc1]; exact hl) hll (by omega) (by omega)
            rw [List.map_cons, am_cs_map hag hc2] at this
            have e4 : am_tv (am_adM ad h.length n.toNatClampNeg q rr) (.ref h.length) = .ref q := by
              show Value.ref (am_adM ad h.length n.toNatClampNeg q rr h.length) = .ref q
              rw [am_adM_n]
            rw [e4] at this
            exact this
          next => cases hex
        next => cases hex
      next => cases hex
    · have hno : am_exH P d M (.multianewarray k n0) pc ls st h = none := by
        unfold am_exH
        split <;> first | rfl | (next hq => cases hq; exact absurd rfl hn2) | (next hq => cases hq)
      rw [hno] at hex
      cases hex
  all_goals cases hex
end AMQ
end
section
/-! A run of the abstract machine is a walk of the machine -/
def am_isr (i : Instr) (t : Option FieldType) (r : Option Value) : Prop :=
  (i = .ireturn ∧ ∃ v, r = some (.int v) ∧ (t = some .int ∨ (t = some .boolean ∧ (v = 0 ∨ v = 1)))) ∨ (i = .lreturn ∧ ∃ v, r = some (.long v) ∧ t = some .long) ∨ (i = .areturn ∧ ∃ a n, r = some (.ref a) ∧ t = some (.object n)) ∨ (i = .return_ ∧ r = none ∧ t = none)
def am_rm (d mc ms : Nat) : Room := { frames := d, cells := mc, slots := ms, locals := 40 * d }
theorem am_mono {P : am_P} {X : am_X} : ∀ (n d j pc : Nat) (ls : am_L) (st : List Value) (h h' : am_H) (r : Option Value), am_run P X n d j pc ls st h = some (r, h') → h.length ≤ h'.length ∧ am_sz h ≤ am_sz h' := by
  intro n
  induction n with
  | zero => intro d j pc ls st h h' r hr; cases hr
  | succ n ih =>
    intro d j pc ls st h h' r hr
    rw [am_run] at hr
    split at hr
    next => cases hr
    next M hM =>
      split at hr
      next i len hi =>
        split at hr
        next pc' ls' st' hp => exact ih _ _ _ _ _ _ _ _ hr
        next hp =>
          split at hr
          next pc' ls' st' h1 hh =>
            split at hr
            next hm =>
              have := ih _ _ _ _ _ _ _ _ hr
              omega
            next => cases hr
          next hh =>
            split at hr
            next r0 hc =>
              cases hr
              omega
            next j2 as st' hc =>
              split at hr
              next => cases hr
              next d1 =>
                split at hr
                next => cases hr
                next M2 hM2 =>
                  split at hr
                  next hle =>
                    split at hr
                    next => cases hr
                    next r1 h1 hrun =>
                      split at hr
                      next hcl =>
                        have g1 := ih _ _ _ _ _ _ _ _ hrun
                        have g2 := ih _ _ _ _ _ _ _ _ hr
                        omega
                      next => cases hr
                  next => cases hr
            next => cases hr
      next => cases hr
section AMS
variable (P : am_P) (X : am_X) (cl : List vw_C) (WS NW : List Cond) (ST : Nat → String × String × String) (EC : String) (D : va_G) (cA : Nat → ClassId) (l : Launch)
def am_Sd (n : Nat) : Prop :=
  ∀ (d j : Nat) (M : am_M) (pc : Nat) (ls : am_L) (st : List Value) (h h' : am_H) (r : Option Value), P.1[j]? = some M → am_run P X n d j pc ls st h = some (r, h') →
  ∀ (p : Program) (e : Env) (R : Room) (s : State) (m : MethodId) (args : Array Value) (below : List Frame) (meth : Method) (c : Code) (H : Heap) (locs : List Loc) (cells slots mc ms n0 : Nat) (A : Nat → Prop) (ad0 ad : Nat → Nat) (lsC : Array Slot) (Q : State → Prop),
    am_C P.2.2.2.2.2.2.2 X NW ST WS D cl cA EC (fun k => ad0 (am_x0 + k)) A M p s m args meth c → am_J D cl cA A s.heap ad H locs h → lv_has lsC M.2.2.1 (am_as ad 0 ls) → ls.length = M.2.2.1 →
    n0 ≤ h.length → am_ag n0 ad0 ad → (h.length = n0 → ad = ad0) → cells + h'.length ≤ mc + h.length → slots + am_sz h' ≤ ms + am_sz h → mc ≤ R.cells → ms ≤ R.slots → d ≤ R.frames → 40 * d ≤ R.locals →
    (∀ (ad' : Nat → Nat) (H' : Heap) (locs' : List Loc) (pc' : Nat) (lsC' : Array Slot) (i : Instr), am_ag n0 ad0 ad' → (h'.length = n0 → ad' = ad0) → am_J D cl cA A s.heap ad' H' locs' h' → decode M.2.1 pc' = .ok (i, 1) → am_isr i M.2.2.2.1 r → W p l e R s m args below meth c H' locs' mc ms Q (F0 m pc' lsC' ((r.map (am_tv ad')).toList))) →
    W p l e R s m args below meth c H locs cells slots Q (F0 m pc lsC (st.map (am_tv ad)))
/-- a contract's start and end -/
def am_Pre (ad : Nat → Nat) (sz : Nat) (h : am_H) (U : State) : Prop := U.heap.size = sz ∧ va_P D cl (am_tw ad cA h) U.heap ∧ va_K D cl (am_tys cA EC) U ∧ va_D (fun _ => True) (am_tw ad cA h) ∧ am_EX EC X NW ST (fun k => ad (am_x0 + k)) (va_A (am_tw ad cA h) sz) U U.heap
def am_Qc (ad : Nat → Nat) (A : Nat → Prop) (n0 : Nat) (r : Option Value) (h' : am_H) : Array Value → State → Outcome → State → Prop := fun _ st oc t =>
  (∃ ad' : Nat → Nat, am_ag n0 ad ad' ∧ (h'.length = n0 → ad' = ad) ∧ oc = .returned (r.map (am_tv ad')) ∧ va_P D cl (am_tw ad' cA h') t.heap ∧ va_D A (am_tw ad' cA h')) ∧ va_F A st t
end AMS
section AMT
variable {P : am_P} {X : am_X} {cl : List vw_C} {WS NW : List Cond} {ST : Nat → String × String × String} {EC : String} {D : va_G} {cA : Nat → ClassId} {l : Launch}
set_option maxHeartbeats 1000000 in
theorem am_met {n : Nat} (hn : am_Sd P X cl WS NW ST EC D cA l n) {d j : Nat} {M : am_M} {as : List Value} {h h' : am_H} {r : Option Value} (hM : P.1[j]? = some M) (hpl : plainFor M.1 = true) (hcn : M.1.cls = P.2.2.2.2.2.2.2 M.2.2.2.2.1) (hen : (am_en as).length ≤ M.2.2.1) (hrun : am_run P X n d j 0 (am_pad M.2.2.1 (am_en as)) [] h = some (r, h')) (ad : Nat → Nat) (sz : Nat) :
    Met l M.1 (Cond.code M.1 M.2.1 M.2.2.1 M.2.2.2.1 :: WS) (am_rm d (h'.length - h.length) (am_sz h' - am_sz h)) (va_Pc (as.map (am_tv ad)) (am_Pre X cl NW ST EC D cA ad sz h)) (am_Qc cl D cA ad (va_A (am_tw ad cA h) sz) h.length r h') (h'.length - h.length) (am_sz h' - am_sz h) (va_A (am_tw ad cA h) sz) := by
  have hmono := am_mono _ _ _ _ _ _ _ _ _ hrun
  refine va_MetF (cc := M.2.1) (maxL := M.2.2.1) (ret := M.2.2.2.1) hpl rfl ?_
  intro p e s m args below meth c s₁ B hml hv
  obtain ⟨rfl, hsz, hP, hK, hD0, hE⟩ := hv
  have hx := B.exec
  have hb := B.bytes
  have hr := B.returns
  have hts := atoms_spec (ws := Cond.code M.1 M.2.1 M.2.2.1 M.2.2.2.1 :: WS) B.pre
  have hown : s.vm.findClass (P.2.2.2.2.2.2.2 M.2.2.2.2.1) = some m.cls := by rw [← hcn]; exact findClass_of_methodNamed B.named
  have hlocks := B.notSynchronized
  have hin : meth.name = M.1.name := (name_of_methodNamed B.named B.method).1
  subst hsz
  have hD := hD0.self (sz := s.heap.size)
  generalize hAe : va_A (am_tw ad cA h) s.heap.size = A at hD hE ⊢
  have hA : ∀ q : Nat, s.heap.size ≤ q → A q := fun q h => by rw [← hAe]; exact Or.inr h
  have hS : va_S A s.heap s.heap [] := va_S.rf
  have hl := am_entry ad as hen
  rw [lg_entry_eq]
  refine hn d j M 0 _ [] h h' r hM hrun p e (am_rm d (h'.length - h.length) (am_sz h' - am_sz h)) s m _ below meth c s.heap [] 0 0 (h'.length - h.length) (am_sz h' - am_sz h) h.length A ad ad _ _ ⟨hx, hb, hml, hr, fun w hw => hts w (List.mem_cons_of_mem _ hw), hown, hlocks, fun z => by rw [hin]; exact z, hK, hA, hE⟩ ⟨hP, hD, hS⟩ hl ?_ (Nat.le_refl _) (am_ag.rf _ _) (fun _ => rfl) (by omega) (by omega) (Nat.le_refl _) (Nat.le_refl _) (Nat.le_refl _) (Nat.le_refl _) ?_
  · unfold am_pad
    rw [List.length_append, List.length_replicate]
    omega
  · intro ad' H' locs' pc' lsC' i hag hne hJ hd hi
    obtain ⟨hP', hD', hS'⟩ := hJ
    have hq : ∀ t : State, t.heap = H' → s.WarmedH t.vm → am_Qc cl D cA ad A h.length r h' (as.map (am_tv ad)).toArray s (.returned (r.map (am_tv ad'))) t := fun t ht _ => ⟨⟨ad', hag, hne, rfl, by rw [ht]; exact hP', hD'⟩, hS'.F ht⟩
    rcases hi with ⟨rfl, v, rfl, ht⟩ | ⟨rfl, v, rfl, ht⟩ | ⟨rfl, a, nm, rfl, ht⟩ | ⟨rfl, rfl, ht⟩
    · rcases ht with ht | ⟨ht, h01⟩
      · exact W.zret (v := v) (ty := .int) hx hb (by rw [hr]; exact ht) rfl hq hS'.2.2 hd
      · exact W.zret (v := v) (ty := .boolean) hx hb (by rw [hr]; exact ht) (by rcases h01 with rfl | rfl <;> rfl) hq hS'.2.2 hd
    · exact W.lret (v := v) hx hb (by rw [hr]; exact ht) hq hS'.2.2 hd
    · exact W.aret (v := .ref (ad' a)) (rt := .object nm) hx hb (by rw [hr]; exact ht) (Or.inl ⟨nm, rfl⟩) (Or.inr ⟨_, rfl⟩) hq hS'.2.2 hd
    · exact W.vret hx hb (by rw [hr]; exact ht) hq hS'.2.2 hd
theorem am_good {M : am_M} (hW : am_GW WS) (hc : Cond.code M.1 M.2.1 M.2.2.1 M.2.2.2.1 ∈ WS) : GoodIn WS (Cond.code M.1 M.2.1 M.2.2.1 M.2.2.2.1 :: WS) := by
  intro w hw
  rcases List.mem_cons.mp hw with rfl | hw
  · exact ⟨hc, Or.inl rfl⟩
  · exact ⟨hw, hW w hw⟩
theorem am_blind (hN : am_GNW NW) (av : List Value) (ad : Nat → Nat) (sz : Nat) (h : am_H) : FrameBlind (va_Pc av (am_Pre X cl NW ST EC D cA ad sz h)) := by
  intro a U g mk q
  obtain ⟨q0, q1, qP, qK, qD, qE⟩ := q
  exact ⟨q0, q1, qP, va_K.moved (u := U) (U := U.calling g mk a) (Vm.Alike.refl U.vm) qK, qD, am_EX.same (s := U) (U := U.calling g mk a) hN rfl qE⟩
theorem am_ret_sp {t : Option FieldType} {st : List Value} {r : Option Value} (h : am_ret t st = some (.inl r)) : ∃ v, st = [.int v] ∧ r = some (.int v) ∧ (t = some .int ∨ (t = some .boolean ∧ (v = 0 ∨ v = 1))) := by
  unfold am_ret at h
  split at h
  · cases h
    exact ⟨_, rfl, rfl, Or.inl rfl⟩
  · split at h
    next h01 =>
      cases h
      exact ⟨_, rfl, rfl, Or.inr ⟨rfl, h01⟩⟩
    next => cases h
  · cases h
theorem am_lrt_sp {t : Option FieldType} {st : List Value} {r : Option Value} (h : am_lrt t st = some (.inl r)) : ∃ v, st = [.long v] ∧ r = some (.long v) ∧ t = some .long := by
  unfold am_lrt at h
  split at h
  · cases h
    exact ⟨_, rfl, rfl, rfl⟩
  · cases h
theorem am_art_sp {t : Option FieldType} {st : List Value} {r : Option Value} (h : am_art t st = some (.inl r)) : ∃ a n, st = [.ref a] ∧ r = some (.ref a) ∧ t = some (.object n) := by
  unfold am_art at h
  split at h
  · cases h
    exact ⟨_, _, rfl, rfl, rfl⟩
  · cases h
theorem am_vrt_sp {t : Option FieldType} {st : List Value} {r : Option Value} (h : am_vrt t st = some (.inl r)) : st = [] ∧ r = none ∧ t = none := by
  unfold am_vrt at h
  split at h
  · cases h
    exact ⟨rfl, rfl, rfl⟩
  · cases h
theorem am_cst_sp {y : Option (Nat × Nat × Nat × Nat)} {st : List Value} {R : am_T} (h : am_cst y st = some R) : ∃ j na ci as st', R = .inr (j, as, st') ∧ y = some (0, j, na, ci) ∧ as.length = na ∧ st = as.reverse ++ st' ∧ am_w st' ≤ 8 := by
  unfold am_cst at h
  split at h
  next j na ci =>
    split at h
    next hc =>
      cases h
      exact ⟨j, na, ci, _, _, rfl, rfl, by simp; omega, by simp, hc.2⟩
    next => cases h
  next => cases h
theorem am_cvi_sp {a b : Nat} {y : Option (Nat × Nat × Nat × Nat)} {st : List Value} {h : am_H} {R : am_T} (hc : am_cvi a b y st h = some R) : ∃ kd j na ci o bs st', R = .inr (j, .ref o :: bs, st') ∧ y = some (kd, j, na, ci) ∧ (kd = a ∨ kd = b) ∧ bs.length = na ∧ st = bs.reverse ++ .ref o :: st' ∧ am_w st' ≤ 8 ∧ am_rc h (.ref o) ci = true := by
  unfold am_cvi at hc
  split at hc
  next kd j na ci =>
    split at hc
    next o r hdr =>
      split at hc
      next hcnd =>
        cases hc
        have hlt : na < st.length := by
          have : (st.drop na).length ≠ 0 := by rw [hdr]; simp
          rw [List.length_drop] at this
          omega
        refine ⟨kd, j, na, ci, o, _, r, rfl, rfl, hcnd.1, by simp; omega, ?_, hcnd.2.1, hcnd.2.2⟩
        rw [List.reverse_reverse, ← hdr, List.take_append_drop]
      next => cases hc
    next => cases hc
  next => cases hc
theorem am_rc_sp {h : am_H} {o ci : Nat} (hc : am_rc h (.ref o) ci = true) : ∃ fs, h[o]? = some (.inr (ci, fs)) := by
  unfold am_rc at hc
  simp only at hc
  split at hc
  next cj fs hh =>
    simp only [decide_eq_true_eq] at hc
    subst hc
    exact ⟨fs, hh⟩
  next => cases hc
theorem am_exC_ret {M : am_M} {i : Instr} {st : List Value} {h : am_H} {r : Option Value} (hc : am_exC P M i st h = some (.inl r)) {len : Nat} (hlo : am_lo i len = true) : am_isr i M.2.2.2.1 r ∧ st = r.toList ∧ len = 1 := by
  cases i
  case ireturn =>
    simp only [am_lo, beq_iff_eq] at hlo
    obtain ⟨v, rfl, rfl, h3⟩ := am_ret_sp hc
    exact ⟨Or.inl ⟨rfl, v, rfl, h3⟩, rfl, hlo⟩
  case lreturn =>
    simp only [am_lo, beq_iff_eq] at hlo
    obtain ⟨v, rfl, rfl, h3⟩ := am_lrt_sp hc
    exact ⟨Or.inr (Or.inl ⟨rfl, v, rfl, h3⟩), rfl, hlo⟩
  case areturn =>
    simp only [am_lo, beq_iff_eq] at hlo
    obtain ⟨a, n, rfl, rfl, h3⟩ := am_art_sp hc
    exact ⟨Or.inr (Or.inr (Or.inl ⟨rfl, a, n, rfl, h3⟩)), rfl, hlo⟩
  case return_ =>
    simp only [am_lo, beq_iff_eq] at hlo
    obtain ⟨rfl, rfl, h3⟩ := am_vrt_sp hc
    exact ⟨Or.inr (Or.inr (Or.inr ⟨rfl, rfl, h3⟩)), rfl, hlo⟩
  case invokestatic k =>
    obtain ⟨_, _, _, _, _, h1, -⟩ := am_cst_sp hc
    cases h1
  case invokevirtual k =>
    obtain ⟨_, _, _, _, _, _, _, h1, -⟩ := am_cvi_sp hc
    cases h1
  case invokespecial k =>
    obtain ⟨_, _, _, _, _, _, _, h1, -⟩ := am_cvi_sp hc
    cases h1
  all_goals cases hc
set_option maxHeartbeats 4000000 in
theorem am_call (hG : am_G P cl WS NW ST EC) {n d1 j2 pc len : Nat} {M M2 : am_M} {as st st' : List Value} {h h1 : am_H} {r1 : Option Value} {p : Program} {e : Env} {R : Room} {s : State} {m : MethodId} {args : Array Value} {below : List Frame} {meth : Method} {c : Code} {H : Heap} {locs : List Loc} {cells slots : Nat} {A : Nat → Prop} {ad xa : Nat → Nat} {lsC : Array Slot} {Q : State → Prop}
    (hn : am_Sd P X cl WS NW ST EC D cA l n) (i : Instr) (hC : am_C P.2.2.2.2.2.2.2 X NW ST WS D cl cA EC xa A M p s m args meth c) (hxa : xa = fun k => ad (am_x0 + k)) (hJ : am_J D cl cA A s.heap ad H locs h) (hls : lsC.size = M.2.2.1) (hd : decode M.2.1 pc = .ok (i, len)) (hlo : am_lo i len = true) (hRf : d1 + 1 ≤ R.frames) (hRl : 40 * (d1 + 1) ≤ R.locals)
    (hc : am_exC P M i st h = some (.inr (j2, as, st'))) (hM2 : P.1[j2]? = some M2) (hen : (am_en as).length ≤ M2.2.2.1) (hrun : am_run P X n d1 j2 0 (am_pad M2.2.2.1 (am_en as)) [] h = some (r1, h1)) (hcR : cells + h1.length ≤ R.cells + h.length) (hsR : slots + am_sz h1 ≤ R.slots + am_sz h)
    (kC : ∀ (v : Option Value) (st₀ t : State) (H1 : Heap) (L : List Loc), st₀.heap = H → t.heap = H1 → am_Qc cl D cA ad (va_A (am_tw ad cA h) H.size) h.length r1 h1 (as.map (am_tv ad)).toArray st₀ (.returned v) t → (∀ q ∈ L, va_A (am_tw ad cA h) H.size q.base) →
      W p l e R s m args below meth c H1 (locs ++ L) (cells + (h1.length - h.length)) (slots + (am_sz h1 - am_sz h)) Q (F0 m (pc + 3) lsC (v.toList ++ st'.map (am_tv ad)))) :
    W p l e R s m args below meth c H locs cells slots Q (F0 m pc lsC (st.map (am_tv ad))) := by
  have hmono := am_mono _ _ _ _ _ _ _ _ _ hrun
  obtain ⟨hx, hb, hml, hr, hts, hown, hlk, hnm, hK, hA, hE⟩ := hC
  obtain ⟨hP, hD, hS⟩ := hJ
  obtain ⟨hGNW, hGF, hGC, hGN, hGY, hGM, hGS, hGW⟩ := hG
  have hFree : ∀ q, va_A (am_tw ad cA h) H.size q → A q := by
    intro q hq
    rcases hq with ⟨k, e0, hq⟩ | hq
    · exact hD.2 k _ hq
    · exact hA q (Nat.le_trans hS.1 hq)
  have hPre : ∀ U : State, U.heap = H → s.WarmedH U.vm → am_Pre X cl NW ST EC D cA ad H.size h U := by
    intro U hU hW
    refine ⟨by rw [hU], by rw [hU]; exact hP, va_K.moved hW.alike hK, hD.weaken (fun _ _ _ _ => trivial), ?_⟩
    rw [hU, ← hxa]
    exact ((hE.kept hS.2.1).narrow hFree).warm hGNW hW
  have hfits : cells + (h1.length - h.length) ≤ R.cells ∧ slots + (am_sz h1 - am_sz h) ≤ R.slots := ⟨by omega, by omega⟩
  have hRR : ∀ L0 : Nat, L0 ≤ 21 → (am_rm d1 (h1.length - h.length) (am_sz h1 - am_sz h)).frames + 1 ≤ R.frames ∧ 8 + (L0 + 11) + (am_rm d1 (h1.length - h.length) (am_sz h1 - am_sz h)).locals ≤ R.locals := by
    intro L0 hL
    exact ⟨hRf, by show 8 + (L0 + 11) + 40 * d1 ≤ _; omega⟩
  cases i
  case invokestatic k =>
    simp only [am_lo, beq_iff_eq] at hlo
    subst hlo
    obtain ⟨j0, na, ci, as0, st0, e0, hy, h3, rfl, h5⟩ := am_cst_sp hc
    cases e0
    obtain ⟨M3, hM3, ⟨c1, c2, c3, c4, c5, c6, c7⟩, q0, -⟩ := (hGY _ _ _ _ _ _ hy).1 (by decide)
    cases hM2.symm.trans hM3
    obtain ⟨w1, w2⟩ := q0 rfl
    refine am_callG (va_runS (own := P.2.2.2.2.2.2.2 M.2.2.2.2.1) (As := as.map (am_tv ad)) (rest := st'.map (am_tv ad)) (n := na) ⟨hx, hb, hml, hown, hts⟩ (am_met hn hM2 c1 (hGM _ _ hM2).1 hen hrun ad H.size) ⟨callB_of na hts (am_good hGW c3) rfl rfl rfl (hts _ c4) (hts _ w1) ⟨c5, c6, c7⟩ (hRR _ c2), hts _ w2⟩ ⟨am_blind hGNW _ _ _ _, fun U hU hW => ⟨rfl, hPre U hU hW⟩⟩ rfl (by rw [List.length_map]; exact h3) hls (by show List.map _ _ = _; rw [List.map_append, List.map_reverse]) (lv_room (by rw [am_w_map]; exact h5)) hd hfits) kC
  case invokevirtual k =>
    simp only [am_lo, beq_iff_eq] at hlo
    subst hlo
    obtain ⟨kd, j0, na, ci, o, bs, st0, e0, hy, hkd, h3, rfl, h5, h6⟩ := am_cvi_sp hc
    cases e0
    obtain ⟨fs, hfs⟩ := am_rc_sp h6
    have he : (am_tw ad cA h)[o]? = some (ad o, .inr (ci, fs.map (am_tv ad))) := am_tw_get hfs
    have hstk : ((bs.reverse ++ Value.ref o :: st').map (am_tv ad)) = (bs.map (am_tv ad)).reverse ++ Value.ref (ad o) :: st'.map (am_tv ad) := by rw [List.map_append, List.map_reverse]; rfl
    rcases hkd with rfl | rfl
    · obtain ⟨M3, hM3, ⟨c1, c2, c3, c4, c5, c6, c7⟩, -, q1, -⟩ := (hGY _ _ _ _ _ _ hy).1 (by decide)
      cases hM2.symm.trans hM3
      obtain ⟨w1, w2, w3, T, N, hcl⟩ := q1 rfl
      refine am_callG (va_runV (own := P.2.2.2.2.2.2.2 M.2.2.2.2.1) (C := M2.1.cls) (b := ad o) (As := bs.map (am_tv ad)) (rest := st'.map (am_tv ad)) (n := na) ⟨hx, hb, hml, hown, hts⟩ (am_met hn hM2 c1 (hGM _ _ hM2).1 hen hrun ad H.size) ⟨callB_of na hts (am_good hGW c3) rfl rfl rfl (hts _ c4) (hts _ w1) ⟨c5, c6, c7⟩ (hRR _ c2), hts _ w2, w3 _ _ hts⟩ ⟨am_blind hGNW _ _ _ _, va_recv hK hP hcl he, fun U hU hW => ⟨rfl, hPre U hU hW⟩⟩ rfl (by rw [List.length_map]; exact h3) hls hstk (lv_room (by rw [am_w_map]; exact h5)) hd hfits) kC
    · obtain ⟨M3, hM3, ⟨c1, c2, c3, c4, c5, c6, c7⟩, -, -, q2, -⟩ := (hGY _ _ _ _ _ _ hy).1 (by decide)
      cases hM2.symm.trans hM3
      obtain ⟨⟨host, w1⟩, w2, w3, T, N, hcl⟩ := q2 rfl
      refine am_callG (va_runVN (own := P.2.2.2.2.2.2.2 M.2.2.2.2.1) (host := host) (C := M2.1.cls) (b := ad o) (As := bs.map (am_tv ad)) (rest := st'.map (am_tv ad)) (n := na) ⟨hx, hb, hml, hown, hts⟩ (am_met hn hM2 c1 (hGM _ _ hM2).1 hen hrun ad H.size) ⟨va_cnB na hts (am_good hGW c3) rfl rfl rfl (hE.2.2.1 _ w1) (hts _ c4) ⟨c5, c6, c7⟩ (hRR _ c2), hts _ w2, w3 _ _ hts⟩ ⟨am_blind hGNW _ _ _ _, va_recv hK hP hcl he, fun U hU hW => ⟨rfl, hPre U hU hW⟩⟩ rfl (by rw [List.length_map]; exact h3) hls hstk (lv_room (by rw [am_w_map]; exact h5)) hd hfits) kC
  case invokespecial k =>
    simp only [am_lo, beq_iff_eq] at hlo
    subst hlo
    obtain ⟨kd, j0, na, ci, o, bs, st0, e0, hy, hkd, h3, rfl, h5, h6⟩ := am_cvi_sp hc
    cases e0
    have hstk : ((bs.reverse ++ Value.ref o :: st').map (am_tv ad)) = (bs.map (am_tv ad)).reverse ++ Value.ref (ad o) :: st'.map (am_tv ad) := by rw [List.map_append, List.map_reverse]; rfl
    rcases hkd with rfl | rfl
    · obtain ⟨M3, hM3, ⟨c1, c2, c3, c4, c5, c6, c7⟩, -, -, -, q3, -⟩ := (hGY _ _ _ _ _ _ hy).1 (by decide)
      cases hM2.symm.trans hM3
      obtain ⟨w1, w2, w3, w4⟩ := q3 rfl
      have hmet := am_met hn hM2 c1 (hGM _ _ hM2).1 hen hrun ad H.size
      obtain ⟨y2, b2, L2, ret2, cn2, code2⟩ := M2
      simp only at w4
      subst w4
      refine am_callG (va_runI (own := P.2.2.2.2.2.2.2 M.2.2.2.2.1) (b := ad o) (As := bs.map (am_tv ad)) (rest := st'.map (am_tv ad)) (n := na) ⟨hx, hb, hml, hown, hts⟩ hmet ⟨callB_of na hts (am_good (M := (y2, b2, L2, none, cn2, code2)) hGW c3) rfl rfl rfl (hts _ c4) (hts _ w1) ⟨c5, c6, c7⟩ (hRR _ c2), w3, hts _ w2⟩ ⟨am_blind hGNW _ _ _ _, fun U hU hW => ⟨rfl, hPre U hU hW⟩⟩ rfl (by rw [List.length_map]; exact h3) hls hstk (lv_room (by rw [am_w_map]; exact h5)) hd hfits) kC
    · obtain ⟨M3, hM3, ⟨c1, c2, c3, c4, c5, c6, c7⟩, -, -, -, -, q4⟩ := (hGY _ _ _ _ _ _ hy).1 (by decide)
      cases hM2.symm.trans hM3
      obtain ⟨⟨host, w1⟩, w2, w3, w4⟩ := q4 rfl
      have hmet := am_met hn hM2 c1 (hGM _ _ hM2).1 hen hrun ad H.size
      obtain ⟨y2, b2, L2, ret2, cn2, code2⟩ := M2
      simp only at w4
      subst w4
      refine am_callG (va_runIN (own := P.2.2.2.2.2.2.2 M.2.2.2.2.1) (host := host) (b := ad o) (As := bs.map (am_tv ad)) (rest := st'.map (am_tv ad)) (n := na) ⟨hx, hb, hml, hown, hts⟩ hmet ⟨va_cnB na hts (am_good (M := (y2, b2, L2, none, cn2, code2)) hGW c3) rfl rfl rfl (hE.2.2.1 _ w1) (hts _ c4) ⟨c5, c6, c7⟩ (hRR _ c2), w3, hts _ w2⟩ ⟨am_blind hGNW _ _ _ _, fun U hU hW => ⟨rfl, hPre U hU hW⟩⟩ rfl (by rw [List.length_map]; exact h3) hls hstk (lv_room (by rw [am_w_map]; exact h5)) hd hfits) kC
  case ireturn =>
    have hc : am_ret M.2.2.2.1 st = some (.inr (j2, as, st')) := hc
    unfold am_ret at hc
    (repeat' split at hc) <;> cases hc
  case lreturn =>
    have hc : am_lrt M.2.2.2.1 st = some (.inr (j2, as, st')) := hc
    unfold am_lrt at hc
    (repeat' split at hc) <;> cases hc
  case areturn =>
    have hc : am_art M.2.2.2.1 st = some (.inr (j2, as, st')) := hc
    unfold am_art at hc
    (repeat' split at hc) <;> cases hc
  case return_ =>
    have hc : am_vrt M.2.2.2.1 st = some (.inr (j2, as, st')) := hc
    unfold am_vrt at hc
    (repeat' split at hc) <;> cases hc
  all_goals cases hc
set_option maxHeartbeats 4000000 in
theorem am_step (hG : am_G P cl WS NW ST EC) {n : Nat} (hn : am_Sd P X cl WS NW ST EC D cA l n) : am_Sd P X cl WS NW ST EC D cA l (n + 1) := by
  intro d j M pc ls st h h' r hM hr p e R s m args below meth c H locs cells slots mc ms n0 A ad0 ad lsC Q hC hJ hl hll hn0 hag hne hcc hss hcR hsR hRf hRl hend
  have hmono := am_mono _ _ _ _ _ _ _ _ _ hr
  rw [am_run] at hr
  rw [hM] at hr
  simp only at hr
  have hxa : ∀ k, k < 3 → (fun k => ad0 (am_x0 + k)) k = ad (am_x0 + k) := fun k _ => (hag _ (Or.inr (Nat.le_add_right _ _))).symm
  split at hr
  next i len hi =>
    obtain ⟨hd, hlo, hpf⟩ := (hG.2.2.2.2.2.1 j M hM).2 pc i len hi
    split at hr
    next pc' ls' st' hp =>
      exact am_plain hG i hC hxa hJ hl hll hd hlo hRf hRl (by omega) (by omega) hp (fun lsC' g1 g2 => hn d j M pc' ls' st' h h' r hM hr p e R s m args below meth c H locs cells slots mc ms n0 A ad0 ad lsC' Q hC hJ g1 g2 hn0 hag hne hcc hss hcR hsR hRf hRl hend)
    next hp =>
      split at hr
      next pc' ls' st' h1 hh =>
        split at hr
        next hm =>
          have hm2 := am_mono _ _ _ _ _ _ _ _ _ hr
          exact am_heap hG i hC hJ hl hll hd hlo hpf hRf hRl (by omega) (by omega) hh hm (fun ad' H1 locs1 cells1 slots1 g1 g2 g3 g4 g5 g6 g7 => hn d j M pc' ls' st' h1 h' r hM hr p e R s m args below meth c H1 locs1 cells1 slots1 mc ms n0 A ad0 ad' lsC Q hC g3 g4 g5 (by omega) (hag.tr g1 hn0) (fun z => by rw [g2 (by omega), hne (by omega)]) (by omega) (by omega) hcR hsR hRf hRl hend)
        next => cases hr
      next hh =>
        split at hr
        next r0 hc =>
          cases hr
          refine W.widen (k := mc) (n := ms) (by omega) (by omega) ?_
          obtain ⟨hi', hst, hl1⟩ := am_exC_ret hc hlo
          subst hl1
          rw [hst]
          have e1 : r.toList.map (am_tv ad) = (r.map (am_tv ad)).toList := by cases r <;> rfl
          rw [e1]
          exact hend ad H locs pc lsC i hag hne hJ hd hi'
        next j2 as st' hc =>
          split at hr
          next => cases hr
          next d1 =>
            split at hr
            next => cases hr
            next M2 hM2 =>
              split at hr
              next hle =>
                split at hr
                next => cases hr
                next r1 h1 hrun =>
                  split at hr
                  next hcl =>
                    have g1 := am_mono _ _ _ _ _ _ _ _ _ hrun
                    have g2 := am_mono _ _ _ _ _ _ _ _ _ hr
                    refine am_call hG hn i hC (funext fun k => (hag _ (Or.inr (Nat.le_add_right _ _))).symm) hJ hl.1 hd hlo hRf hRl hc hM2 hle hrun (by omega) (by omega) ?_
                    intro v st₀ t H1 L k0 k1 hQ hL
                    obtain ⟨⟨ad', hag', hne', hv, hP1, hD1⟩, hF⟩ := hQ
                    cases hv
                    obtain ⟨hP, hD, hS⟩ := hJ
                    have hA := hC.2.2.2.2.2.2.2.2.2.1
                    have hFree : ∀ q, va_A (am_tw ad cA h) H.size q → A q := by
                      intro q hq
                      rcases hq with ⟨k, e0, hq⟩ | hq
                      · exact hD.2 k _ hq
                      · exact hA q (Nat.le_trans hS.1 hq)
                    have hcls : st'.map (am_tv ad') = st'.map (am_tv ad) ∧ am_as ad' 0 ls = am_as ad 0 ls := by
                      rcases hcl with z | z
                      · rw [hne' z]
                        exact ⟨rfl, rfl⟩
                      · simp only [Bool.and_eq_true] at z
                        exact ⟨am_cs_map hag' z.1.2, am_co_as hag' _ _ z.1.1⟩
                    have e1 : (r1.map (am_tv ad')).toList ++ st'.map (am_tv ad) = (r1.toList ++ st').map (am_tv ad') := by
                      rw [List.map_append, hcls.1]
                      cases r1 <;> rfl
                    rw [e1]
                    have hS1 : va_S A s.heap H1 (locs ++ L) := by
                      obtain ⟨f1, f2⟩ := hF
                      rw [k0, k1] at f1
                      rw [k0, k1] at f2
                      refine ⟨Nat.le_trans hS.1 f1, fun q hq hnA => ?_, fun q hq => ?_⟩
                      · rw [f2 q (Nat.lt_of_lt_of_le hq hS.1) (fun z => hnA (hFree q z))]
                        exact hS.2.1 q hq hnA
                      · rcases List.mem_append.mp hq with z | z
                        · exact hS.2.2 q z
                        · exact hFree _ (hL q z)
                    rw [k1] at hP1
                    exact hn (d1 + 1) j M (pc + 3) ls (r1.toList ++ st') h1 h' r hM hr p e R s m args below meth c H1 (locs ++ L) _ _ mc ms n0 A ad0 ad' lsC Q hC ⟨hP1, hD1.weaken (fun _ q _ z => hFree _ z), hS1⟩ (by rw [hcls.2]; exact hl) hll (by omega) (hag.tr hag' hn0) (fun z => by rw [hne' (by omega), hne (by omega)]) (by omega) (by omega) hcR hsR hRf hRl hend
                  next => cases hr
              next => cases hr
        next => cases hr
  next => cases hr
theorem am_sound (hG : am_G P cl WS NW ST EC) : ∀ n, am_Sd P X cl WS NW ST EC D cA l n
  | 0 => by
    intro d j M pc ls st h h' r hM hr
    cases hr
  | n + 1 => am_step hG (am_sound hG n)
end AMT
end
section
/-! The tables of the abstract machine, printed by wip/whole/gentab.py out of the Statement -/
def am_CN : Nat → String := fun k => match k with
  | 0 => "SampledBanks"
  | 1 => "SampledBanks$Records"
  | 2 => "SampledBanks$Polynomial"
  | 3 => "SampledBanks$Equations"
  | 4 => "SampledBanks$Fraction"
  | 5 => "SampledBanksModel"
  | 6 => "SampledBanks$Field"
  | 7 => "SampledBanksLaw"
  | _ => "java/util/Arrays"
def at_B : u_T := fun k => match k with
  | 0 => ("SampledBanks", "banks", "[LSampledBanks$Records;", true)
  | 1 => ("SampledBanks", "parcelOne", "LSampledBanks$Records;", true)
  | 2 => ("SampledBanks", "parcelTwo", "LSampledBanks$Records;", true)
  | 3 => ("SampledBanks", "fraction", "LSampledBanks$Fraction;", true)
  | _ => ("SampledBanks", "sentNumbers", "J", false)
def ay_B : Nat → FieldType := fun k => match k with
  | 0 => .array (.object "SampledBanks$Records")
  | 1 => .object "SampledBanks$Records"
  | 2 => .object "SampledBanks$Records"
  | 3 => .object "SampledBanks$Fraction"
  | _ => .long
theorem ayo_B : ∀ k, k < 5 → parseFieldDescriptor (at_B k).2.2.1 = some (ay_B k) := by decide +kernel
theorem ann_B : ∀ a, a < 5 → ∀ b, b < 5 → a ≠ b → (at_B a).2.1 ≠ (at_B b).2.1 := by decide +kernel
def at_R : u_T := fun k => match k with
  | 0 => ("SampledBanks$Records", "words", "[I", true)
  | 1 => ("SampledBanks$Records", "weights", "[I", true)
  | 2 => ("SampledBanks$Records", "dropMarks", "[Z", true)
  | _ => ("SampledBanks$Records", "count", "I", false)
def ay_R : Nat → FieldType := fun k => match k with
  | 0 => .array .int
  | 1 => .array .int
  | 2 => .array .boolean
  | _ => .int
theorem ayo_R : ∀ k, k < 4 → parseFieldDescriptor (at_R k).2.2.1 = some (ay_R k) := by decide +kernel
theorem ann_R : ∀ a, a < 4 → ∀ b, b < 4 → a ≠ b → (at_R a).2.1 ≠ (at_R b).2.1 := by decide +kernel
def at_Y : u_T := fun k => match k with
  | 0 => ("SampledBanks$Polynomial", "factors", "[J", true)
  | _ => ("SampledBanks$Polynomial", "degree", "I", false)
def ay_Y : Nat → FieldType := fun k => match k with
  | 0 => .array .long
  | _ => .int
theorem ayo_Y : ∀ k, k < 2 → parseFieldDescriptor (at_Y k).2.2.1 = some (ay_Y k) := by decide +kernel
theorem ann_Y : ∀ a, a < 2 → ∀ b, b < 2 → a ≠ b → (at_Y a).2.1 ≠ (at_Y b).2.1 := by decide +kernel
def at_Q : u_T := fun k => match k with
  | 0 => ("SampledBanks$Equations", "rows", "[[J", true)
  | 1 => ("SampledBanks$Equations", "rowOfUnknown", "[I", true)
  | _ => ("SampledBanks$Equations", "count", "I", false)
def ay_Q : Nat → FieldType := fun k => match k with
  | 0 => .array (.array .long)
  | 1 => .array .int
  | _ => .int
theorem ayo_Q : ∀ k, k < 3 → parseFieldDescriptor (at_Q k).2.2.1 = some (ay_Q k) := by decide +kernel
theorem ann_Q : ∀ a, a < 3 → ∀ b, b < 3 → a ≠ b → (at_Q a).2.1 ≠ (at_Q b).2.1 := by decide +kernel
def at_A : u_T := fun k => match k with
  | 0 => ("SampledBanks$Fraction", "up", "LSampledBanks$Polynomial;", true)
  | 1 => ("SampledBanks$Fraction", "low", "LSampledBanks$Polynomial;", true)
  | 2 => ("SampledBanks$Fraction", "workOne", "LSampledBanks$Polynomial;", true)
  | 3 => ("SampledBanks$Fraction", "workTwo", "LSampledBanks$Polynomial;", true)
  | 4 => ("SampledBanks$Fraction", "equations", "LSampledBanks$Equations;", true)
  | 5 => ("SampledBanks$Fraction", "samplesOfA", "[J", true)
  | _ => ("SampledBanks$Fraction", "samplesOfB", "[J", true)
def ay_A : Nat → FieldType := fun k => match k with
  | 0 => .object "SampledBanks$Polynomial"
  | 1 => .object "SampledBanks$Polynomial"
  | 2 => .object "SampledBanks$Polynomial"
  | 3 => .object "SampledBanks$Polynomial"
  | 4 => .object "SampledBanks$Equations"
  | 5 => .array .long
  | _ => .array .long
theorem ayo_A : ∀ k, k < 7 → parseFieldDescriptor (at_A k).2.2.1 = some (ay_A k) := by decide +kernel
theorem ann_A : ∀ a, a < 7 → ∀ b, b < 7 → a ≠ b → (at_A a).2.1 ≠ (at_A b).2.1 := by decide +kernel
def at_M : u_T := fun k => match k with
  | 0 => ("SampledBanksModel", "sizes", "[I", true)
  | 1 => ("SampledBanksModel", "numbers", "[I", true)
  | 2 => ("SampledBanksModel", "versions", "[I", true)
  | 3 => ("SampledBanksModel", "grams", "[I", true)
  | 4 => ("SampledBanksModel", "dropped", "[Z", true)
  | 5 => ("SampledBanksModel", "sent", "J", false)
  | 6 => ("SampledBanksModel", "up", "[J", true)
  | 7 => ("SampledBanksModel", "low", "[J", true)
  | 8 => ("SampledBanksModel", "upDegree", "I", false)
  | 9 => ("SampledBanksModel", "lowDegree", "I", false)
  | 10 => ("SampledBanksModel", "pairs", "I", false)
  | 11 => ("SampledBanksModel", "sieve", "[J", true)
  | 12 => ("SampledBanksModel", "values", "[J", true)
  | 13 => ("SampledBanksModel", "u", "[J", true)
  | 14 => ("SampledBanksModel", "l", "[J", true)
  | 15 => ("SampledBanksModel", "uDegree", "I", false)
  | 16 => ("SampledBanksModel", "lDegree", "I", false)
  | 17 => ("SampledBanksModel", "over", "[J", true)
  | 18 => ("SampledBanksModel", "under", "[J", true)
  | 19 => ("SampledBanksModel", "times", "[J", true)
  | 20 => ("SampledBanksModel", "underDegree", "I", false)
  | 21 => ("SampledBanksModel", "taken", "I", false)
  | 22 => ("SampledBanksModel", "takers", "[I", true)
  | 23 => ("SampledBanksModel", "takenNumbers", "[I", true)
  | 24 => ("SampledBanksModel", "takenVersions", "[I", true)
  | 25 => ("SampledBanksModel", "takenGrams", "[I", true)
  | _ => ("SampledBanksModel", "takenDropped", "[Z", true)
def ay_M : Nat → FieldType := fun k => match k with
  | 0 => .array .int
  | 1 => .array .int
  | 2 => .array .int
  | 3 => .array .int
  | 4 => .array .boolean
  | 5 => .long
  | 6 => .array .long
  | 7 => .array .long
  | 8 => .int
  | 9 => .int
  | 10 => .int
  | 11 => .array .long
  | 12 => .array .long
  | 13 => .array .long
  | 14 => .array .long
  | 15 => .int
  | 16 => .int
  | 17 => .array .long
  | 18 => .array .long
  | 19 => .array .long
  | 20 => .int
  | 21 => .int
  | 22 => .array .int
  | 23 => .array .int
  | 24 => .array .int
  | 25 => .array .int
  | _ => .array .boolean
theorem ayo_M : ∀ k, k < 27 → parseFieldDescriptor (at_M k).2.2.1 = some (ay_M k) := by decide +kernel
theorem ann_M : ∀ a, a < 27 → ∀ b, b < 27 → a ≠ b → (at_M a).2.1 ≠ (at_M b).2.1 := by decide +kernel
def am_cls : List vw_C := [("SampledBanks", at_B, 5), ("SampledBanks$Records", at_R, 4), ("SampledBanks$Polynomial", at_Y, 2), ("SampledBanks$Equations", at_Q, 3), ("SampledBanks$Fraction", at_A, 7), ("SampledBanksModel", at_M, 27)]
def am_Ft0 : List (Nat × Nat × Nat × Nat × Nat) := [(11, (2, 0, 0, 2)), (16, (2, 0, 1, 2)), (20, (2, 0, 2, 2)), (26, (2, 0, 3, 2)), (48, (1, 1, 3, 0)), (63, (3, 1, 2, 2)), (67, (3, 1, 1, 2)), (71, (3, 1, 0, 2)), (107, (0, 0, 4, 1)), (118, (1, 2, 1, 0)), (123, (3, 2, 0, 2)), (134, (3, 4, 0, 2)), (138, (3, 4, 1, 2))]
def am_Ft1 : List (Nat × Nat × Nat × Nat × Nat) := [(9, (2, 1, 0, 2)), (15, (2, 1, 1, 2)), (18, (2, 1, 2, 2)), (22, (0, 1, 3, 0))]
def am_Ft2 : List (Nat × Nat × Nat × Nat × Nat) := [(9, (2, 2, 0, 2)), (21, (0, 2, 1, 0))]
def am_Ft3 : List (Nat × Nat × Nat × Nat × Nat) := [(11, (2, 3, 0, 2)), (16, (2, 3, 1, 2)), (32, (0, 3, 2, 0))]
def am_Ft4 : List (Nat × Nat × Nat × Nat × Nat) := [(12, (2, 4, 0, 2)), (18, (2, 4, 1, 2)), (21, (2, 4, 2, 2)), (24, (2, 4, 3, 2)), (30, (2, 4, 4, 2)), (34, (2, 4, 5, 2)), (38, (2, 4, 6, 2)), (41, (1, 1, 3, 0)), (69, (1, 2, 1, 0))]
def am_Ft5 : List (Nat × Nat × Nat × Nat × Nat) := [(7, (2, 5, 0, 2)), (13, (2, 5, 1, 2)), (16, (2, 5, 2, 2)), (19, (2, 5, 3, 2)), (22, (2, 5, 4, 2)), (26, (2, 5, 6, 2)), (30, (2, 5, 7, 2)), (33, (2, 5, 11, 2)), (36, (2, 5, 12, 2)), (39, (2, 5, 13, 2)), (42, (2, 5, 14, 2)), (45, (2, 5, 17, 2)), (48, (2, 5, 18, 2)), (51, (2, 5, 19, 2)), (54, (2, 5, 22, 2)), (57, (2, 5, 23, 2)), (60, (2, 5, 24, 2)), (63, (2, 5, 25, 2)), (66, (2, 5, 26, 2)), (106, (0, 5, 10, 0)), (110, (0, 5, 15, 0)), (113, (0, 5, 16, 0)), (139, (0, 5, 20, 0)), (155, (0, 5, 8, 0)), (158, (0, 5, 9, 0)), (161, (0, 5, 21, 0)), (168, (0, 5, 5, 1))]
def am_Ft6 : List (Nat × Nat × Nat × Nat × Nat) := []
def am_Ft7 : List (Nat × Nat × Nat × Nat × Nat) := []
def am_Ft8 : List (Nat × Nat × Nat × Nat × Nat) := []
def am_Ft : Nat → Nat → Option (Nat × Nat × Nat × Nat) := fun own k => match own with
  | 0 => List.lookup k am_Ft0
  | 1 => List.lookup k am_Ft1
  | 2 => List.lookup k am_Ft2
  | 3 => List.lookup k am_Ft3
  | 4 => List.lookup k am_Ft4
  | 5 => List.lookup k am_Ft5
  | 6 => List.lookup k am_Ft6
  | 7 => List.lookup k am_Ft7
  | 8 => List.lookup k am_Ft8
  | _ => none
def am_Yt0 : List (Nat × Nat × Nat × Nat × Nat) := [(3, (5, 0, 0, 0)), (15, (4, 2, 0, 1)), (25, (4, 3, 0, 4)), (30, (0, 7, 1, 0)), (34, (0, 8, 1, 0)), (37, (1, 9, 1, 1)), (41, (1, 10, 2, 1)), (45, (1, 11, 1, 1)), (52, (0, 12, 2, 0)), (56, (0, 13, 2, 0)), (59, (1, 14, 3, 1)), (76, (1, 22, 1, 1)), (80, (0, 25, 2, 0)), (83, (0, 26, 1, 0)), (86, (1, 27, 3, 0)), (90, (1, 57, 2, 0)), (94, (1, 60, 3, 0)), (103, (1, 63, 1, 1)), (111, (0, 66, 1, 0)), (114, (1, 67, 1, 4)), (127, (1, 28, 3, 4)), (131, (1, 43, 0, 4)), (141, (1, 49, 2, 1)), (145, (1, 51, 1, 4)), (148, (1, 52, 2, 0)), (151, (1, 58, 1, 1)), (155, (1, 53, 1, 1)), (158, (1, 54, 1, 1)), (161, (1, 55, 1, 1)), (164, (6, 0, 2, 0))]
def am_Yt1 : List (Nat × Nat × Nat × Nat × Nat) := [(3, (5, 0, 0, 0)), (26, (1, 9, 1, 1)), (30, (1, 10, 2, 1)), (34, (1, 15, 3, 1)), (38, (0, 23, 2, 0)), (44, (1, 50, 1, 2)), (50, (1, 14, 3, 1))]
def am_Yt2 : List (Nat × Nat × Nat × Nat × Nat) := [(3, (5, 0, 0, 0)), (15, (7, 0, 5, 0)), (25, (1, 42, 1, 3)), (31, (0, 23, 2, 0)), (37, (0, 32, 2, 0)), (40, (0, 37, 1, 0)), (44, (1, 47, 1, 2)), (48, (6, 0, 2, 0)), (54, (0, 31, 2, 0))]
def am_Yt3 : List (Nat × Nat × Nat × Nat × Nat) := [(3, (5, 0, 0, 0)), (20, (0, 23, 2, 0)), (26, (0, 31, 2, 0)), (29, (0, 32, 2, 0)), (36, (0, 34, 2, 0)), (42, (1, 35, 2, 3)), (46, (1, 36, 2, 3)), (50, (0, 37, 1, 0)), (54, (1, 38, 3, 3)), (58, (1, 39, 2, 3)), (61, (1, 40, 1, 3))]
def am_Yt4 : List (Nat × Nat × Nat × Nat × Nat) := [(3, (5, 0, 0, 0)), (11, (3, 4, 0, 2)), (29, (4, 5, 0, 3)), (47, (1, 29, 3, 4)), (53, (1, 30, 6, 3)), (57, (1, 33, 1, 3)), (61, (1, 41, 3, 2)), (65, (1, 44, 1, 2)), (72, (1, 45, 0, 2)), (75, (1, 46, 1, 2)), (78, (1, 48, 1, 2)), (81, (1, 50, 1, 2)), (85, (0, 23, 2, 0)), (91, (1, 22, 1, 1))]
def am_Yt5 : List (Nat × Nat × Nat × Nat × Nat) := [(1, (5, 0, 0, 0)), (69, (0, 71, 1, 5)), (73, (0, 72, 1, 5)), (76, (1, 73, 2, 5)), (80, (1, 74, 2, 5)), (83, (1, 80, 1, 5)), (89, (0, 84, 2, 5)), (95, (0, 83, 1, 5)), (99, (1, 82, 2, 5)), (103, (0, 93, 2, 5)), (116, (1, 92, 3, 5)), (120, (0, 94, 1, 5)), (124, (1, 95, 3, 5)), (128, (1, 96, 1, 5)), (132, (1, 99, 2, 5)), (136, (1, 98, 1, 5)), (142, (1, 102, 1, 5)), (145, (1, 103, 0, 5)), (149, (1, 104, 0, 5)), (152, (1, 101, 0, 5)), (164, (1, 109, 2, 5)), (174, (1, 90, 0, 5)), (177, (1, 91, 3, 5)), (181, (1, 97, 0, 5)), (185, (1, 106, 1, 5)), (188, (1, 107, 1, 5)), (191, (1, 89, 3, 5)), (195, (1, 100, 0, 5)), (198, (1, 105, 3, 5)), (201, (1, 108, 2, 5)), (205, (1, 110, 0, 5)), (208, (0, 86, 2, 5)), (211, (0, 87, 1, 5)), (214, (1, 88, 3, 5)), (218, (1, 112, 2, 5)), (221, (1, 114, 3, 5)), (224, (1, 117, 2, 5))]
def am_Yt6 : List (Nat × Nat × Nat × Nat × Nat) := []
def am_Yt7 : List (Nat × Nat × Nat × Nat × Nat) := [(9, (3, 1, 0, 0)), (12, (3, 69, 0, 5)), (13, (1, 6, 3, 0)), (17, (1, 70, 3, 5)), (18, (1, 16, 2, 0)), (22, (1, 75, 2, 5)), (23, (1, 17, 2, 0)), (26, (1, 76, 2, 5)), (27, (1, 18, 2, 0)), (30, (1, 77, 2, 5)), (31, (1, 19, 1, 0)), (35, (1, 78, 1, 5)), (36, (1, 20, 2, 0)), (39, (1, 79, 2, 5)), (40, (1, 21, 2, 0)), (43, (1, 81, 2, 5)), (44, (1, 24, 3, 0)), (47, (1, 85, 3, 5)), (48, (1, 56, 2, 0)), (51, (1, 111, 2, 5)), (52, (1, 59, 3, 0)), (55, (1, 113, 3, 5)), (56, (1, 61, 1, 0)), (59, (1, 115, 1, 5)), (60, (1, 62, 2, 0)), (63, (1, 116, 2, 5)), (64, (1, 64, 0, 0)), (68, (1, 118, 0, 5)), (69, (1, 65, 1, 0)), (72, (1, 119, 1, 5)), (73, (1, 68, 2, 0)), (76, (1, 120, 2, 5))]
def am_Yt8 : List (Nat × Nat × Nat × Nat × Nat) := []
def am_Yt : Nat → Nat → Option (Nat × Nat × Nat × Nat) := fun own k => match own with
  | 0 => List.lookup k am_Yt0
  | 1 => List.lookup k am_Yt1
  | 2 => List.lookup k am_Yt2
  | 3 => List.lookup k am_Yt3
  | 4 => List.lookup k am_Yt4
  | 5 => List.lookup k am_Yt5
  | 6 => List.lookup k am_Yt6
  | 7 => List.lookup k am_Yt7
  | 8 => List.lookup k am_Yt8
  | _ => none
def am_Kt0 : List (Nat × Int64) := [(74, (1073741824 : Int64))]
def am_Kt1 : List (Nat × Int64) := []
def am_Kt2 : List (Nat × Int64) := []
def am_Kt3 : List (Nat × Int64) := []
def am_Kt4 : List (Nat × Int64) := [(51, (1073741824 : Int64))]
def am_Kt5 : List (Nat × Int64) := [(87, (2147483647 : Int64)), (93, (1073741824 : Int64)), (172, (2 : Int64))]
def am_Kt6 : List (Nat × Int64) := [(9, (2147483647 : Int64)), (11, (2147483645 : Int64))]
def am_Kt7 : List (Nat × Int64) := []
def am_Kt8 : List (Nat × Int64) := []
def am_Kt : Nat → Nat → Option (Int64) := fun own k => match own with
  | 0 => List.lookup k am_Kt0
  | 1 => List.lookup k am_Kt1
  | 2 => List.lookup k am_Kt2
  | 3 => List.lookup k am_Kt3
  | 4 => List.lookup k am_Kt4
  | 5 => List.lookup k am_Kt5
  | 6 => List.lookup k am_Kt6
  | 7 => List.lookup k am_Kt7
  | 8 => List.lookup k am_Kt8
  | _ => none
def am_Nt0 : List (Nat × Nat × List Value) := [(9, (1, [.null, .null, .null, .int 0])), (23, (4, [.null, .null, .null, .null, .null, .null, .null]))]
def am_Nt1 : List (Nat × Nat × List Value) := []
def am_Nt2 : List (Nat × Nat × List Value) := []
def am_Nt3 : List (Nat × Nat × List Value) := []
def am_Nt4 : List (Nat × Nat × List Value) := [(9, (2, [.null, .int 0])), (27, (3, [.null, .null, .int 0]))]
def am_Nt5 : List (Nat × Nat × List Value) := []
def am_Nt6 : List (Nat × Nat × List Value) := []
def am_Nt7 : List (Nat × Nat × List Value) := [(7, (0, [.null, .null, .null, .null, .long 0])), (10, (5, [.null, .null, .null, .null, .null, .long 0, .null, .null, .int 0, .int 0, .int 0, .null, .null, .null, .null, .int 0, .int 0, .null, .null, .null, .int 0, .int 0, .null, .null, .null, .null, .null]))]
def am_Nt8 : List (Nat × Nat × List Value) := []
def am_Nt : Nat → Nat → Option (Nat × List Value) := fun own k => match own with
  | 0 => List.lookup k am_Nt0
  | 1 => List.lookup k am_Nt1
  | 2 => List.lookup k am_Nt2
  | 3 => List.lookup k am_Nt3
  | 4 => List.lookup k am_Nt4
  | 5 => List.lookup k am_Nt5
  | 6 => List.lookup k am_Nt6
  | 7 => List.lookup k am_Nt7
  | 8 => List.lookup k am_Nt8
  | _ => none
def am_St0 : List (Nat × Nat) := [(97, 1), (100, 2)]
def am_St1 : List (Nat × Nat) := []
def am_St2 : List (Nat × Nat) := []
def am_St3 : List (Nat × Nat) := [(9, 77)]
def am_St4 : List (Nat × Nat) := []
def am_St5 : List (Nat × Nat) := []
def am_St6 : List (Nat × Nat) := []
def am_St7 : List (Nat × Nat) := []
def am_St8 : List (Nat × Nat) := []
def am_St : Nat → Nat → Option (Nat) := fun own k => match own with
  | 0 => List.lookup k am_St0
  | 1 => List.lookup k am_St1
  | 2 => List.lookup k am_St2
  | 3 => List.lookup k am_St3
  | 4 => List.lookup k am_St4
  | 5 => List.lookup k am_St5
  | 6 => List.lookup k am_St6
  | 7 => List.lookup k am_St7
  | 8 => List.lookup k am_St8
  | _ => none
def am_STt : Nat → String × String × String := fun k => match k with
  | 1 => ("SampledBanks", "SPREAD_FIRST", "[I")
  | _ => ("SampledBanks", "SPREAD_SECOND", "[I")
-- a method's rows are what the machine decodes; a final field is put by a constructor alone
def am_dk (F : am_F) (ini : Bool) (M : am_M) : Bool := (List.range M.2.2.2.2.2.length).all fun pc => match M.2.2.2.2.2[pc]? with
  | some (some (i, len)) => (match decode M.2.1 pc with
      | .ok (i', len') => decide (i' = i) && decide (len' = len)
      | .error _ => false) && am_lo i len && (match i with
      | .putfield k => ini || (match F M.2.2.2.2.1 k with
        | some (2, _) => false
        | _ => true)
      | _ => true)
  | _ => true
theorem am_dk_ok {F : am_F} {ini : Bool} {M : am_M} (h : am_dk F ini M = true) (hn : ini = true → M.1.name = "<init>") (pc : Nat) (i : Instr) (len : Nat) (hi : M.2.2.2.2.2[pc]? = some (some (i, len))) : decode M.2.1 pc = .ok (i, len) ∧ am_lo i len = true ∧ ∀ k ci i0 t : Nat, i = .putfield k → F M.2.2.2.2.1 k = some (2, ci, i0, t) → M.1.name = "<init>" := by
  have h1 := List.all_eq_true.mp h pc (List.mem_range.mpr (List.getElem?_eq_some_iff.mp hi).1)
  simp only [hi, Bool.and_eq_true] at h1
  obtain ⟨⟨h2, h3⟩, h4⟩ := h1
  refine ⟨?_, h3, ?_⟩
  · split at h2
    next i' len' hd =>
      simp only [Bool.and_eq_true, decide_eq_true_eq] at h2
      rw [hd, h2.1, h2.2]
    next => cases h2
  · intro k ci i0 t hk hF
    subst hk
    simp only [hF, Bool.or_false] at h4
    exact hn h4
end
section
def k_L_law : List (Option (Instr × Nat)) := [some (.new 7, 3), none, none, some (.dup, 1), some (.invokespecial 9, 3), none, none, some (.astore_n 1, 1), some (.new 10, 3), none, none, some (.dup, 1), some (.invokespecial 12, 3), none, none, some (.astore_n 2, 1), some (.iconst 0, 1), some (.istore_n 3, 1), some (.iload_n 3, 1), some (.aload_n 0, 1), some (.arraylength, 1), some (.iconst 4, 1), some (.isub, 1), some (.if_icmp .gt 567, 3), none, none, some (.aload_n 0, 1), some (.iload_n 3, 1), some (.iaload, 1), some (.bipush 15, 2), none, some (.iand, 1), some (.tableswitch 552 0 14 #[76, 119, 152, 185, 218, 241, 274, 307, 350, 383, 426, 449, 482, 496, 519], 76), none, none, none, none, none, none, none, none, none, none, none, none, none, none, none, none, none, none, none, none, none, none, none, none, none, none, none, none, none, none, none, none, none, none, none, none, none, none, none, none, none, none, none, none, none, none, none, none, none, none, none, none, none, none, none, none, none, none, none, none, none, none, none, none, none, none, none, none, none, none, none, none, none, none, none, some (.aload_n 1, 1), some (.aload_n 0, 1), some (.iload_n 3, 1), some (.iconst 1, 1), some (.iadd, 1), some (.iaload, 1), some (.aload_n 0, 1), some (.iload_n 3, 1), some (.iconst 2, 1), some (.iadd, 1), some (.iaload, 1), some (.aload_n 0, 1), some (.iload_n 3, 1), some (.iconst 3, 1), some (.iadd, 1), some (.iaload, 1), some (.invokevirtual 13, 3), none, none, some (.aload_n 2, 1), some (.aload_n 0, 1), some (.iload_n 3, 1), some (.iconst 1, 1), some (.iadd, 1), some (.iaload, 1), some (.aload_n 0, 1), some (.iload_n 3, 1), some (.iconst 2, 1), some (.iadd, 1), some (.iaload, 1), some (.aload_n 0, 1), some (.iload_n 3, 1), some (.iconst 3, 1), some (.iadd, 1), some (.iaload, 1), some (.invokevirtual 17, 3), none, none, some (.if_icmp .eq 438, 3), none, none, some (.iconst 0, 1), some (.ireturn, 1), some (.aload_n 1, 1), some (.aload_n 0, 1), some (.iload_n 3, 1), some (.iconst 1, 1), some (.iadd, 1), some (.iaload, 1), some (.aload_n 0, 1), some (.iload_n 3, 1), some (.iconst 2, 1), some (.iadd, 1), some (.iaload, 1), some (.invokevirtual 18, 3), none, none, some (.aload_n 2, 1), some (.aload_n 0, 1), some (.iload_n 3, 1), some (.iconst 1, 1), some (.iadd, 1), some (.iaload, 1), some (.aload_n 0, 1), some (.iload_n 3, 1), some (.iconst 2, 1), some (.iadd, 1), some (.iaload, 1), some (.invokevirtual 22, 3), none, none, some (.if_icmp .eq 405, 3), none, none, some (.iconst 0, 1), some (.ireturn, 1), some (.aload_n 1, 1), some (.aload_n 0, 1), some (.iload_n 3, 1), some (.iconst 1, 1), some (.iadd, 1), some (.iaload, 1), some (.aload_n 0, 1), some (.iload_n 3, 1), some (.iconst 2, 1), some (.iadd, 1), some (.iaload, 1), some (.invokevirtual 23, 3), none, none, some (.aload_n 2, 1), some (.aload_n 0, 1), some (.iload_n 3, 1), some (.iconst 1, 1), some (.iadd, 1), some (.iaload, 1), some (.aload_n 0, 1), some (.iload_n 3, 1), some (.iconst 2, 1), some (.iadd, 1), some (.iaload, 1), some (.invokevirtual 26, 3), none, none, some (.if_icmp .eq 372, 3), none, none, some (.iconst 0, 1), some (.ireturn, 1), some (.aload_n 1, 1), some (.aload_n 0, 1), some (.iload_n 3, 1), some (.iconst 1, 1), some (.iadd, 1), some (.iaload, 1), some (.aload_n 0, 1), some (.iload_n 3, 1), some (.iconst 2, 1), some (.iadd, 1), some (.iaload, 1), some (.invokevirtual 27, 3), none, none, some (.aload_n 2, 1), some (.aload_n 0, 1), some (.iload_n 3, 1), some (.iconst 1, 1), some (.iadd, 1), some (.iaload, 1), some (.aload_n 0, 1), some (.iload_n 3, 1), some (.iconst 2, 1), some (.iadd, 1), some (.iaload, 1), some (.invokevirtual 30, 3), none, none, some (.if_icmp .eq 339, 3), none, none, some (.iconst 0, 1), some (.ireturn, 1), some (.aload_n 1, 1), some (.aload_n 0, 1), some (.iload_n 3, 1), some (.iconst 1, 1), some (.iadd, 1), some (.iaload, 1), some (.invokevirtual 31, 3), none, none, some (.aload_n 2, 1), some (.aload_n 0, 1), some (.iload_n 3, 1), some (.iconst 1, 1), some (.iadd, 1), some (.iaload, 1), some (.invokevirtual 35, 3), none, none, some (.if_icmp .eq 316, 3), none, none, some (.iconst 0, 1), some (.ireturn, 1), some (.aload_n 1, 1), some (.aload_n 0, 1), some (.iload_n 3, 1), some (.iconst 1, 1), some (.iadd, 1), some (.iaload, 1), some (.aload_n 0, 1), some (.iload_n 3, 1), some (.iconst 2, 1), some (.iadd, 1), some (.iaload, 1), some (.invokevirtual 36, 3), none, none, some (.aload_n 2, 1), some (.aload_n 0, 1), some (.iload_n 3, 1), some (.iconst 1, 1), some (.iadd, 1), some (.iaload, 1), some (.aload_n 0, 1), some (.iload_n 3, 1), some (.iconst 2, 1), some (.iadd, 1), some (.iaload, 1), some (.invokevirtual 39, 3), none, none, some (.if_icmp .eq 283, 3), none, none, some (.iconst 0, 1), some (.ireturn, 1), some (.aload_n 1, 1), some (.aload_n 0, 1), some (.iload_n 3, 1), some (.iconst 1, 1), some (.iadd, 1), some (.iaload, 1), some (.aload_n 0, 1), some (.iload_n 3, 1), some (.iconst 2, 1), some (.iadd, 1), some (.iaload, 1), some (.invokevirtual 40, 3), none, none, some (.aload_n 2, 1), some (.aload_n 0, 1), some (.iload_n 3, 1), some (.iconst 1, 1), some (.iadd, 1), some (.iaload, 1), some (.aload_n 0, 1), some (.iload_n 3, 1), some (.iconst 2, 1), some (.iadd, 1), some (.iaload, 1), some (.invokevirtual 43, 3), none, none, some (.if_icmp .eq 250, 3), none, none, some (.iconst 0, 1), some (.ireturn, 1), some (.aload_n 1, 1), some (.aload_n 0, 1), some (.iload_n 3, 1), some (.iconst 1, 1), some (.iadd, 1), some (.iaload, 1), some (.aload_n 0, 1), some (.iload_n 3, 1), some (.iconst 2, 1), some (.iadd, 1), some (.iaload, 1), some (.aload_n 0, 1), some (.iload_n 3, 1), some (.iconst 3, 1), some (.iadd, 1), some (.iaload, 1), some (.invokevirtual 44, 3), none, none, some (.aload_n 2, 1), some (.aload_n 0, 1), some (.iload_n 3, 1), some (.iconst 1, 1), some (.iadd, 1), some (.iaload, 1), some (.aload_n 0, 1), some (.iload_n 3, 1), some (.iconst 2, 1), some (.iadd, 1), some (.iaload, 1), some (.aload_n 0, 1), some (.iload_n 3, 1), some (.iconst 3, 1), some (.iadd, 1), some (.iaload, 1), some (.invokevirtual 47, 3), none, none, some (.if_icmp .eq 207, 3), none, none, some (.iconst 0, 1), some (.ireturn, 1), some (.aload_n 1, 1), some (.aload_n 0, 1), some (.iload_n 3, 1), some (.iconst 1, 1), some (.iadd, 1), some (.iaload, 1), some (.aload_n 0, 1), some (.iload_n 3, 1), some (.iconst 2, 1), some (.iadd, 1), some (.iaload, 1), some (.invokevirtual 48, 3), none, none, some (.aload_n 2, 1), some (.aload_n 0, 1), some (.iload_n 3, 1), some (.iconst 1, 1), some (.iadd, 1), some (.iaload, 1), some (.aload_n 0, 1), some (.iload_n 3, 1), some (.iconst 2, 1), some (.iadd, 1), some (.iaload, 1), some (.invokevirtual 51, 3), none, none, some (.if_icmp .eq 174, 3), none, none, some (.iconst 0, 1), some (.ireturn, 1), some (.aload_n 1, 1), some (.aload_n 0, 1), some (.iload_n 3, 1), some (.iconst 1, 1), some (.iadd, 1), some (.iaload, 1), some (.aload_n 0, 1), some (.iload_n 3, 1), some (.iconst 2, 1), some (.iadd, 1), some (.iaload, 1), some (.aload_n 0, 1), some (.iload_n 3, 1), some (.iconst 3, 1), some (.iadd, 1), some (.iaload, 1), some (.invokevirtual 52, 3), none, none, some (.aload_n 2, 1), some (.aload_n 0, 1), some (.iload_n 3, 1), some (.iconst 1, 1), some (.iadd, 1), some (.iaload, 1), some (.aload_n 0, 1), some (.iload_n 3, 1), some (.iconst 2, 1), some (.iadd, 1), some (.iaload, 1), some (.aload_n 0, 1), some (.iload_n 3, 1), some (.iconst 3, 1), some (.iadd, 1), some (.iaload, 1), some (.invokevirtual 55, 3), none, none, some (.if_icmp .eq 131, 3), none, none, some (.iconst 0, 1), some (.ireturn, 1), some (.aload_n 1, 1), some (.aload_n 0, 1), some (.iload_n 3, 1), some (.iconst 1, 1), some (.iadd, 1), some (.iaload, 1), some (.invokevirtual 56, 3), none, none, some (.aload_n 2, 1), some (.aload_n 0, 1), some (.iload_n 3, 1), some (.iconst 1, 1), some (.iadd, 1), some (.iaload, 1), some (.invokevirtual 59, 3), none, none, some (.if_icmp .eq 108, 3), none, none, some (.iconst 0, 1), some (.ireturn, 1), some (.aload_n 1, 1), some (.aload_n 0, 1), some (.iload_n 3, 1), some (.iconst 1, 1), some (.iadd, 1), some (.iaload, 1), some (.aload_n 0, 1), some (.iload_n 3, 1), some (.iconst 2, 1), some (.iadd, 1), some (.iaload, 1), some (.invokevirtual 60, 3), none, none, some (.aload_n 2, 1), some (.aload_n 0, 1), some (.iload_n 3, 1), some (.iconst 1, 1), some (.iadd, 1), some (.iaload, 1), some (.aload_n 0, 1), some (.iload_n 3, 1), some (.iconst 2, 1), some (.iadd, 1), some (.iaload, 1), some (.invokevirtual 63, 3), none, none, some (.if_icmp .eq 75, 3), none, none, some (.iconst 0, 1), some (.ireturn, 1), some (.aload_n 1, 1), some (.invokevirtual 64, 3), none, none, some (.aload_n 2, 1), some (.invokevirtual 68, 3), none, none, some (.lcmp, 1), some (.ifCond .eq 61, 3), none, none, some (.iconst 0, 1), some (.ireturn, 1), some (.aload_n 1, 1), some (.aload_n 0, 1), some (.iload_n 3, 1), some (.iconst 1, 1), some (.iadd, 1), some (.iaload, 1), some (.invokevirtual 69, 3), none, none, some (.aload_n 2, 1), some (.aload_n 0, 1), some (.iload_n 3, 1), some (.iconst 1, 1), some (.iadd, 1), some (.iaload, 1), some (.invokevirtual 72, 3), none, none, some (.if_icmp .eq 38, 3), none, none, some (.iconst 0, 1), some (.ireturn, 1), some (.aload_n 1, 1), some (.aload_n 0, 1), some (.iload_n 3, 1), some (.iconst 1, 1), some (.iadd, 1), some (.iaload, 1), some (.aload_n 0, 1), some (.iload_n 3, 1), some (.iconst 2, 1), some (.iadd, 1), some (.iaload, 1), some (.invokevirtual 73, 3), none, none, some (.aload_n 2, 1), some (.aload_n 0, 1), some (.iload_n 3, 1), some (.iconst 1, 1), some (.iadd, 1), some (.iaload, 1), some (.aload_n 0, 1), some (.iload_n 3, 1), some (.iconst 2, 1), some (.iadd, 1), some (.iaload, 1), some (.invokevirtual 76, 3), none, none, some (.if_icmp .eq 5, 3), none, none, some (.iconst 0, 1), some (.ireturn, 1), some (.iinc 3 4, 3), none, none, some (.goto (-569), 3), none, none, some (.iconst 1, 1), some (.ireturn, 1)]
def m_L_law : am_M := (x, code, 4, (some .boolean), 7, k_L_law)
set_option maxRecDepth 100000 in
theorem dk_L_law : am_dk am_Ft false m_L_law = true := by decide +kernel
def k_B_init : List (Option (Instr × Nat)) := [some (.aload_n 0, 1), some (.invokespecial 3, 3), none, none, some (.aload_n 0, 1), some (.iconst 4, 1), some (.anewarray 9, 3), none, none, some (.putfield 11, 3), none, none, some (.aload_n 0, 1), some (.new 9, 3), none, none, some (.dup, 1), some (.invokespecial 15, 3), none, none, some (.putfield 16, 3), none, none, some (.aload_n 0, 1), some (.new 9, 3), none, none, some (.dup, 1), some (.invokespecial 15, 3), none, none, some (.putfield 20, 3), none, none, some (.aload_n 0, 1), some (.new 23, 3), none, none, some (.dup, 1), some (.invokespecial 25, 3), none, none, some (.putfield 26, 3), none, none, some (.iconst 0, 1), some (.istore_n 1, 1), some (.iload_n 1, 1), some (.iconst 4, 1), some (.if_icmp .ge 22, 3), none, none, some (.aload_n 0, 1), some (.getfield 11, 3), none, none, some (.iload_n 1, 1), some (.new 9, 3), none, none, some (.dup, 1), some (.invokespecial 15, 3), none, none, some (.aastore, 1), some (.iinc 1 1, 3), none, none, some (.goto (-21), 3), none, none, some (.return_, 1)]
def m_B_init : am_M := (⟨"SampledBanks", "<init>", "()V"⟩, prog_1_method_1_code, 2, none, 0, k_B_init)
set_option maxRecDepth 100000 in
theorem dk_B_init : am_dk am_Ft true m_B_init = true := by decide +kernel
def k_R_init : List (Option (Instr × Nat)) := [some (.aload_n 0, 1), some (.invokespecial 3, 3), none, none, some (.aload_n 0, 1), some (.bipush 64, 2), none, some (.newarray .int, 2), none, some (.putfield 9, 3), none, none, some (.aload_n 0, 1), some (.bipush 64, 2), none, some (.newarray .int, 2), none, some (.putfield 15, 3), none, none, some (.aload_n 0, 1), some (.bipush 64, 2), none, some (.newarray .boolean, 2), none, some (.putfield 18, 3), none, none, some (.return_, 1)]
def m_R_init : am_M := (⟨"SampledBanks$Records", "<init>", "()V"⟩, prog_6_method_1_code, 1, none, 1, k_R_init)
set_option maxRecDepth 100000 in
theorem dk_R_init : am_dk am_Ft true m_R_init = true := by decide +kernel
def k_A_init : List (Option (Instr × Nat)) := [some (.aload_n 0, 1), some (.invokespecial 3, 3), none, none, some (.aload_n 0, 1), some (.new 9, 3), none, none, some (.dup, 1), some (.invokespecial 11, 3), none, none, some (.putfield 12, 3), none, none, some (.aload_n 0, 1), some (.new 9, 3), none, none, some (.dup, 1), some (.invokespecial 11, 3), none, none, some (.putfield 18, 3), none, none, some (.aload_n 0, 1), some (.new 9, 3), none, none, some (.dup, 1), some (.invokespecial 11, 3), none, none, some (.putfield 21, 3), none, none, some (.aload_n 0, 1), some (.new 9, 3), none, none, some (.dup, 1), some (.invokespecial 11, 3), none, none, some (.putfield 24, 3), none, none, some (.aload_n 0, 1), some (.new 27, 3), none, none, some (.dup, 1), some (.invokespecial 29, 3), none, none, some (.putfield 30, 3), none, none, some (.aload_n 0, 1), some (.bipush 18, 2), none, some (.newarray .long, 2), none, some (.putfield 34, 3), none, none, some (.aload_n 0, 1), some (.bipush 18, 2), none, some (.newarray .long, 2), none, some (.putfield 38, 3), none, none, some (.return_, 1)]
def m_A_init : am_M := (⟨"SampledBanks$Fraction", "<init>", "()V"⟩, prog_4_method_1_code, 1, none, 4, k_A_init)
set_option maxRecDepth 100000 in
theorem dk_A_init : am_dk am_Ft true m_A_init = true := by decide +kernel
def k_Y_init : List (Option (Instr × Nat)) := [some (.aload_n 0, 1), some (.invokespecial 3, 3), none, none, some (.aload_n 0, 1), some (.bipush 17, 2), none, some (.newarray .long, 2), none, some (.putfield 9, 3), none, none, some (.aload_n 0, 1), some (.getfield 9, 3), none, none, some (.iconst 0, 1), some (.lconst 1, 1), some (.lastore, 1), some (.return_, 1)]
def m_Y_init : am_M := (⟨"SampledBanks$Polynomial", "<init>", "()V"⟩, prog_5_method_1_code, 1, none, 2, k_Y_init)
set_option maxRecDepth 100000 in
theorem dk_Y_init : am_dk am_Ft true m_Y_init = true := by decide +kernel
def k_Q_init : List (Option (Instr × Nat)) := [some (.aload_n 0, 1), some (.invokespecial 3, 3), none, none, some (.aload_n 0, 1), some (.bipush 16, 2), none, some (.bipush 17, 2), none, some (.multianewarray 9 2, 4), none, none, none, some (.putfield 11, 3), none, none, some (.aload_n 0, 1), some (.bipush 16, 2), none, some (.newarray .int, 2), none, some (.putfield 16, 3), none, none, some (.return_, 1)]
def m_Q_init : am_M := (⟨"SampledBanks$Equations", "<init>", "()V"⟩, prog_2_method_1_code, 1, none, 3, k_Q_init)
set_option maxRecDepth 100000 in
theorem dk_Q_init : am_dk am_Ft true m_Q_init = true := by decide +kernel
def k_B_put : List (Option (Instr × Nat)) := [some (.iload_n 1, 1), some (.invokestatic 30, 3), none, none, some (.ifCond .eq 10, 3), none, none, some (.iload_n 2, 1), some (.invokestatic 34, 3), none, none, some (.ifCond .ne 5, 3), none, none, some (.iconst (-1), 1), some (.ireturn, 1), some (.aload_n 0, 1), some (.getfield 11, 3), none, none, some (.iload_n 1, 1), some (.aaload, 1), some (.astore 4, 2), none, some (.aload 4, 2), none, some (.iload_n 2, 1), some (.invokevirtual 37, 3), none, none, some (.istore 5, 2), none, some (.aload 4, 2), none, some (.iload 5, 2), none, some (.iload_n 2, 1), some (.invokevirtual 41, 3), none, none, some (.ifCond .ne 7, 3), none, none, some (.iconst 1, 1), some (.goto 4, 3), none, none, some (.iconst 0, 1), some (.istore 6, 2), none, some (.iload 6, 2), none, some (.ifCond .eq 7, 3), none, none, some (.iconst 0, 1), some (.goto 12, 3), none, none, some (.aload 4, 2), none, some (.iload 5, 2), none, some (.invokevirtual 45, 3), none, none, some (.iconst 2, 1), some (.idiv, 1), some (.istore 7, 2), none, some (.iload 6, 2), none, some (.ifCond .eq 13, 3), none, none, some (.aload 4, 2), none, some (.getfield 48, 3), none, none, some (.bipush 64, 2), none, some (.if_icmp .eq 11, 3), none, none, some (.iload 7, 2), none, some (.sipush 500, 3), none, none, some (.if_icmp .ne 6, 3), none, none, some (.bipush (-3), 2), none, some (.ireturn, 1), some (.iload_n 1, 1), some (.iload 7, 2), none, some (.invokestatic 52, 3), none, none, some (.istore 8, 2), none, some (.aload 4, 2), none, some (.iload_n 2, 1), some (.iload 8, 2), none, some (.invokestatic 56, 3), none, none, some (.iload_n 3, 1), some (.iconst 0, 1), some (.invokevirtual 59, 3), none, none, some (.iload 8, 2), none, some (.ireturn, 1)]
def m_B_put : am_M := (⟨"SampledBanks", "put", "(III)I"⟩, prog_1_method_2_code, 9, (some .int), 0, k_B_put)
set_option maxRecDepth 100000 in
theorem dk_B_put : am_dk am_Ft false m_B_put = true := by decide +kernel
def k_B_isBank : List (Option (Instr × Nat)) := [some (.iload_n 0, 1), some (.ifCond .lt 12, 3), none, none, some (.iload_n 0, 1), some (.iconst 4, 1), some (.if_icmp .ge 7, 3), none, none, some (.iconst 1, 1), some (.goto 4, 3), none, none, some (.iconst 0, 1), some (.ireturn, 1)]
def m_B_isBank : am_M := (⟨"SampledBanks", "isBank", "(I)Z"⟩, prog_1_method_17_code, 1, (some .boolean), 0, k_B_isBank)
set_option maxRecDepth 100000 in
theorem dk_B_isBank : am_dk am_Ft false m_B_isBank = true := by decide +kernel
def k_B_isNumber : List (Option (Instr × Nat)) := [some (.iload_n 0, 1), some (.ifCond .lt 14, 3), none, none, some (.iload_n 0, 1), some (.sipush 10000, 3), none, none, some (.if_icmp .ge 7, 3), none, none, some (.iconst 1, 1), some (.goto 4, 3), none, none, some (.iconst 0, 1), some (.ireturn, 1)]
def m_B_isNumber : am_M := (⟨"SampledBanks", "isNumber", "(I)Z"⟩, prog_1_method_19_code, 1, (some .boolean), 0, k_B_isNumber)
set_option maxRecDepth 100000 in
theorem dk_B_isNumber : am_dk am_Ft false m_B_isNumber = true := by decide +kernel
def k_R_placeOf : List (Option (Instr × Nat)) := [some (.iconst 0, 1), some (.istore_n 2, 1), some (.aload_n 0, 1), some (.getfield 22, 3), none, none, some (.istore_n 3, 1), some (.iload_n 2, 1), some (.iload_n 3, 1), some (.if_icmp .ge 39, 3), none, none, some (.iload_n 2, 1), some (.iload_n 3, 1), some (.iadd, 1), some (.iconst 2, 1), some (.idiv, 1), some (.istore 4, 2), none, some (.aload_n 0, 1), some (.getfield 9, 3), none, none, some (.iload 4, 2), none, some (.iaload, 1), some (.sipush 1024, 3), none, none, some (.idiv, 1), some (.iload_n 1, 1), some (.if_icmp .ge 11, 3), none, none, some (.iload 4, 2), none, some (.iconst 1, 1), some (.iadd, 1), some (.istore_n 2, 1), some (.goto 6, 3), none, none, some (.iload 4, 2), none, some (.istore_n 3, 1), some (.goto (-38), 3), none, none, some (.iload_n 2, 1), some (.ireturn, 1)]
def m_R_placeOf : am_M := (⟨"SampledBanks$Records", "placeOf", "(I)I"⟩, prog_6_method_2_code, 5, (some .int), 1, k_R_placeOf)
set_option maxRecDepth 100000 in
theorem dk_R_placeOf : am_dk am_Ft false m_R_placeOf = true := by decide +kernel
def k_R_holdsAt : List (Option (Instr × Nat)) := [some (.iload_n 1, 1), some (.aload_n 0, 1), some (.getfield 22, 3), none, none, some (.if_icmp .ge 21, 3), none, none, some (.aload_n 0, 1), some (.getfield 9, 3), none, none, some (.iload_n 1, 1), some (.iaload, 1), some (.sipush 1024, 3), none, none, some (.idiv, 1), some (.iload_n 2, 1), some (.if_icmp .ne 7, 3), none, none, some (.iconst 1, 1), some (.goto 4, 3), none, none, some (.iconst 0, 1), some (.ireturn, 1)]
def m_R_holdsAt : am_M := (⟨"SampledBanks$Records", "holdsAt", "(II)Z"⟩, prog_6_method_3_code, 3, (some .boolean), 1, k_R_holdsAt)
set_option maxRecDepth 100000 in
theorem dk_R_holdsAt : am_dk am_Ft false m_R_holdsAt = true := by decide +kernel
def k_R_versionAt : List (Option (Instr × Nat)) := [some (.aload_n 0, 1), some (.getfield 9, 3), none, none, some (.iload_n 1, 1), some (.iaload, 1), some (.sipush 1024, 3), none, none, some (.irem, 1), some (.ireturn, 1)]
def m_R_versionAt : am_M := (⟨"SampledBanks$Records", "versionAt", "(I)I"⟩, prog_6_method_4_code, 2, (some .int), 1, k_R_versionAt)
set_option maxRecDepth 100000 in
theorem dk_R_versionAt : am_dk am_Ft false m_R_versionAt = true := by decide +kernel
def k_B_nextVersion : List (Option (Instr × Nat)) := [some (.iconst 2, 1), some (.iload_n 1, 1), some (.iconst 1, 1), some (.iadd, 1), some (.imul, 1), some (.iload_n 0, 1), some (.iconst 2, 1), some (.irem, 1), some (.iadd, 1), some (.ireturn, 1)]
def m_B_nextVersion : am_M := (⟨"SampledBanks", "nextVersion", "(II)I"⟩, prog_1_method_22_code, 2, (some .int), 0, k_B_nextVersion)
set_option maxRecDepth 100000 in
theorem dk_B_nextVersion : am_dk am_Ft false m_B_nextVersion = true := by decide +kernel
def k_B_wordOf : List (Option (Instr × Nat)) := [some (.sipush 1024, 3), none, none, some (.iload_n 0, 1), some (.imul, 1), some (.iload_n 1, 1), some (.iadd, 1), some (.ireturn, 1)]
def m_B_wordOf : am_M := (⟨"SampledBanks", "wordOf", "(II)I"⟩, prog_1_method_23_code, 2, (some .int), 0, k_B_wordOf)
set_option maxRecDepth 100000 in
theorem dk_B_wordOf : am_dk am_Ft false m_B_wordOf = true := by decide +kernel
end
section
def k_R_store : List (Option (Instr × Nat)) := [some (.aload_n 0, 1), some (.iload_n 1, 1), some (.sipush 1024, 3), none, none, some (.idiv, 1), some (.invokevirtual 26, 3), none, none, some (.istore 4, 2), none, some (.aload_n 0, 1), some (.iload 4, 2), none, some (.iload_n 1, 1), some (.sipush 1024, 3), none, none, some (.idiv, 1), some (.invokevirtual 30, 3), none, none, some (.ifCond .ne 53, 3), none, none, some (.aload_n 0, 1), some (.getfield 22, 3), none, none, some (.bipush 64, 2), none, some (.if_icmp .lt 4, 3), none, none, some (.return_, 1), some (.aload_n 0, 1), some (.getfield 22, 3), none, none, some (.istore 5, 2), none, some (.iload 5, 2), none, some (.iload 4, 2), none, some (.if_icmp .le 20, 3), none, none, some (.aload_n 0, 1), some (.aload_n 0, 1), some (.iload 5, 2), none, some (.iconst 1, 1), some (.isub, 1), some (.iload 5, 2), none, some (.invokevirtual 34, 3), none, none, some (.iinc 5 (-1), 3), none, none, some (.goto (-21), 3), none, none, some (.aload_n 0, 1), some (.dup, 1), some (.getfield 22, 3), none, none, some (.iconst 1, 1), some (.iadd, 1), some (.putfield 22, 3), none, none, some (.aload_n 0, 1), some (.getfield 9, 3), none, none, some (.iload 4, 2), none, some (.iload_n 1, 1), some (.iastore, 1), some (.aload_n 0, 1), some (.getfield 15, 3), none, none, some (.iload 4, 2), none, some (.iload_n 2, 1), some (.iastore, 1), some (.aload_n 0, 1), some (.getfield 18, 3), none, none, some (.iload 4, 2), none, some (.iload_n 3, 1), some (.bastore, 1), some (.return_, 1)]
def m_R_store : am_M := (⟨"SampledBanks$Records", "store", "(IIZ)V"⟩, prog_6_method_5_code, 6, none, 1, k_R_store)
set_option maxRecDepth 100000 in
theorem dk_R_store : am_dk am_Ft false m_R_store = true := by decide +kernel
def k_R_copyRecord : List (Option (Instr × Nat)) := [some (.aload_n 0, 1), some (.getfield 9, 3), none, none, some (.iload_n 3, 1), some (.aload_n 1, 1), some (.getfield 9, 3), none, none, some (.iload_n 2, 1), some (.iaload, 1), some (.iastore, 1), some (.aload_n 0, 1), some (.getfield 15, 3), none, none, some (.iload_n 3, 1), some (.aload_n 1, 1), some (.getfield 15, 3), none, none, some (.iload_n 2, 1), some (.iaload, 1), some (.iastore, 1), some (.aload_n 0, 1), some (.getfield 18, 3), none, none, some (.iload_n 3, 1), some (.aload_n 1, 1), some (.getfield 18, 3), none, none, some (.iload_n 2, 1), some (.baload, 1), some (.bastore, 1), some (.return_, 1)]
def m_R_copyRecord : am_M := (⟨"SampledBanks$Records", "copyRecord", "(LSampledBanks$Records;II)V"⟩, prog_6_method_11_code, 4, none, 1, k_R_copyRecord)
set_option maxRecDepth 100000 in
theorem dk_R_copyRecord : am_dk am_Ft false m_R_copyRecord = true := by decide +kernel
def k_B_drop : List (Option (Instr × Nat)) := [some (.iload_n 1, 1), some (.invokestatic 30, 3), none, none, some (.ifCond .eq 10, 3), none, none, some (.iload_n 2, 1), some (.invokestatic 34, 3), none, none, some (.ifCond .ne 5, 3), none, none, some (.iconst (-1), 1), some (.ireturn, 1), some (.aload_n 0, 1), some (.getfield 11, 3), none, none, some (.iload_n 1, 1), some (.aaload, 1), some (.astore_n 3, 1), some (.aload_n 3, 1), some (.iload_n 2, 1), some (.invokevirtual 37, 3), none, none, some (.istore 4, 2), none, some (.aload_n 3, 1), some (.iload 4, 2), none, some (.iload_n 2, 1), some (.invokevirtual 41, 3), none, none, some (.ifCond .eq 13, 3), none, none, some (.aload_n 3, 1), some (.getfield 63, 3), none, none, some (.iload 4, 2), none, some (.baload, 1), some (.ifCond .eq 6, 3), none, none, some (.bipush (-2), 2), none, some (.ireturn, 1), some (.aload_n 3, 1), some (.iload 4, 2), none, some (.invokevirtual 45, 3), none, none, some (.iconst 2, 1), some (.idiv, 1), some (.istore 5, 2), none, some (.iload 5, 2), none, some (.sipush 500, 3), none, none, some (.if_icmp .ne 6, 3), none, none, some (.bipush (-3), 2), none, some (.ireturn, 1), some (.iload_n 1, 1), some (.iload 5, 2), none, some (.invokestatic 52, 3), none, none, some (.istore 6, 2), none, some (.aload_n 3, 1), some (.iload_n 2, 1), some (.iload 6, 2), none, some (.invokestatic 56, 3), none, none, some (.aload_n 3, 1), some (.getfield 67, 3), none, none, some (.iload 4, 2), none, some (.iaload, 1), some (.iconst 1, 1), some (.invokevirtual 59, 3), none, none, some (.iload 6, 2), none, some (.ireturn, 1)]
def m_B_drop : am_M := (⟨"SampledBanks", "drop", "(II)I"⟩, prog_1_method_3_code, 7, (some .int), 0, k_B_drop)
set_option maxRecDepth 100000 in
theorem dk_B_drop : am_dk am_Ft false m_B_drop = true := by decide +kernel
def k_B_version : List (Option (Instr × Nat)) := [some (.iload_n 1, 1), some (.invokestatic 30, 3), none, none, some (.ifCond .eq 10, 3), none, none, some (.iload_n 2, 1), some (.invokestatic 34, 3), none, none, some (.ifCond .ne 5, 3), none, none, some (.iconst (-1), 1), some (.ireturn, 1), some (.aload_n 0, 1), some (.getfield 11, 3), none, none, some (.iload_n 1, 1), some (.aaload, 1), some (.astore_n 3, 1), some (.aload_n 3, 1), some (.iload_n 2, 1), some (.invokevirtual 37, 3), none, none, some (.istore 4, 2), none, some (.aload_n 3, 1), some (.iload 4, 2), none, some (.iload_n 2, 1), some (.invokevirtual 41, 3), none, none, some (.ifCond .ne 5, 3), none, none, some (.iconst 0, 1), some (.ireturn, 1), some (.aload_n 3, 1), some (.iload 4, 2), none, some (.invokevirtual 45, 3), none, none, some (.istore 5, 2), none, some (.aload_n 3, 1), some (.getfield 63, 3), none, none, some (.iload 4, 2), none, some (.baload, 1), some (.ifCond .eq 9, 3), none, none, some (.iload 5, 2), none, some (.ineg, 1), some (.goto 5, 3), none, none, some (.iload 5, 2), none, some (.ireturn, 1)]
def m_B_version : am_M := (⟨"SampledBanks", "version", "(II)I"⟩, prog_1_method_4_code, 6, (some .int), 0, k_B_version)
set_option maxRecDepth 100000 in
theorem dk_B_version : am_dk am_Ft false m_B_version = true := by decide +kernel
def k_B_grams : List (Option (Instr × Nat)) := [some (.iload_n 1, 1), some (.invokestatic 30, 3), none, none, some (.ifCond .eq 10, 3), none, none, some (.iload_n 2, 1), some (.invokestatic 34, 3), none, none, some (.ifCond .ne 5, 3), none, none, some (.iconst 0, 1), some (.ireturn, 1), some (.aload_n 0, 1), some (.getfield 11, 3), none, none, some (.iload_n 1, 1), some (.aaload, 1), some (.astore_n 3, 1), some (.aload_n 3, 1), some (.iload_n 2, 1), some (.invokevirtual 37, 3), none, none, some (.istore 4, 2), none, some (.aload_n 3, 1), some (.iload 4, 2), none, some (.iload_n 2, 1), some (.invokevirtual 41, 3), none, none, some (.ifCond .eq 13, 3), none, none, some (.aload_n 3, 1), some (.getfield 67, 3), none, none, some (.iload 4, 2), none, some (.iaload, 1), some (.goto 4, 3), none, none, some (.iconst 0, 1), some (.ireturn, 1)]
def m_B_grams : am_M := (⟨"SampledBanks", "grams", "(II)I"⟩, prog_1_method_5_code, 5, (some .int), 0, k_B_grams)
set_option maxRecDepth 100000 in
theorem dk_B_grams : am_dk am_Ft false m_B_grams = true := by decide +kernel
def k_B_size : List (Option (Instr × Nat)) := [some (.iload_n 1, 1), some (.invokestatic 30, 3), none, none, some (.ifCond .eq 15, 3), none, none, some (.aload_n 0, 1), some (.getfield 11, 3), none, none, some (.iload_n 1, 1), some (.aaload, 1), some (.getfield 48, 3), none, none, some (.goto 4, 3), none, none, some (.iconst (-1), 1), some (.ireturn, 1)]
def m_B_size : am_M := (⟨"SampledBanks", "size", "(I)I"⟩, prog_1_method_6_code, 2, (some .int), 0, k_B_size)
set_option maxRecDepth 100000 in
theorem dk_B_size : am_dk am_Ft false m_B_size = true := by decide +kernel
def k_B_word : List (Option (Instr × Nat)) := [some (.iload_n 1, 1), some (.invokestatic 30, 3), none, none, some (.ifCond .eq 20, 3), none, none, some (.iload_n 2, 1), some (.ifCond .lt 16, 3), none, none, some (.iload_n 2, 1), some (.aload_n 0, 1), some (.getfield 11, 3), none, none, some (.iload_n 1, 1), some (.aaload, 1), some (.getfield 48, 3), none, none, some (.if_icmp .lt 5, 3), none, none, some (.iconst (-1), 1), some (.ireturn, 1), some (.aload_n 0, 1), some (.getfield 11, 3), none, none, some (.iload_n 1, 1), some (.aaload, 1), some (.getfield 71, 3), none, none, some (.iload_n 2, 1), some (.iaload, 1), some (.ireturn, 1)]
def m_B_word : am_M := (⟨"SampledBanks", "word", "(II)I"⟩, prog_1_method_7_code, 3, (some .int), 0, k_B_word)
set_option maxRecDepth 100000 in
theorem dk_B_word : am_dk am_Ft false m_B_word = true := by decide +kernel
def k_B_sample : List (Option (Instr × Nat)) := [some (.iload_n 1, 1), some (.invokestatic 30, 3), none, none, some (.ifCond .eq 13, 3), none, none, some (.iload_n 2, 1), some (.ifCond .lt 9, 3), none, none, some (.iload_n 2, 1), some (.bipush 18, 2), none, some (.if_icmp .lt 5, 3), none, none, some (.iconst (-1), 1), some (.ireturn, 1), some (.aload_n 0, 1), some (.getfield 11, 3), none, none, some (.iload_n 1, 1), some (.aaload, 1), some (.ldc2_w 74, 3), none, none, some (.iload_n 2, 1), some (.i2l, 1), some (.ladd, 1), some (.invokevirtual 76, 3), none, none, some (.l2i, 1), some (.ireturn, 1)]
def m_B_sample : am_M := (⟨"SampledBanks", "sample", "(II)I"⟩, prog_1_method_8_code, 3, (some .int), 0, k_B_sample)
set_option maxRecDepth 100000 in
theorem dk_B_sample : am_dk am_Ft false m_B_sample = true := by decide +kernel
def k_R_sampleAt : List (Option (Instr × Nat)) := [some (.lconst 1, 1), some (.lstore_n 3, 1), some (.iconst 0, 1), some (.istore 5, 2), none, some (.iload 5, 2), none, some (.aload_n 0, 1), some (.getfield 22, 3), none, none, some (.if_icmp .ge 24, 3), none, none, some (.lload_n 3, 1), some (.lload_n 1, 1), some (.aload_n 0, 1), some (.getfield 9, 3), none, none, some (.iload 5, 2), none, some (.iaload, 1), some (.i2l, 1), some (.lsub, 1), some (.invokestatic 38, 3), none, none, some (.lstore_n 3, 1), some (.iinc 5 1, 3), none, none, some (.goto (-27), 3), none, none, some (.lload_n 3, 1), some (.lreturn, 1)]
def m_R_sampleAt : am_M := (⟨"SampledBanks$Records", "sampleAt", "(J)J"⟩, prog_6_method_6_code, 6, (some .long), 1, k_R_sampleAt)
set_option maxRecDepth 100000 in
theorem dk_R_sampleAt : am_dk am_Ft false m_R_sampleAt = true := by decide +kernel
def k_F_times : List (Option (Instr × Nat)) := [some (.lload_n 0, 1), some (.lload_n 2, 1), some (.lmul, 1), some (.ldc2_w 9, 3), none, none, some (.lrem, 1), some (.lreturn, 1)]
def m_F_times : am_M := (⟨"SampledBanks$Field", "times", "(JJ)J"⟩, prog_3_method_4_code, 4, (some .long), 6, k_F_times)
set_option maxRecDepth 100000 in
theorem dk_F_times : am_dk am_Ft false m_F_times = true := by decide +kernel
def k_B_exchange : List (Option (Instr × Nat)) := [some (.iload_n 1, 1), some (.iload_n 2, 1), some (.invokestatic 80, 3), none, none, some (.ifCond .eq 10, 3), none, none, some (.iload_n 3, 1), some (.invokestatic 83, 3), none, none, some (.ifCond .ne 5, 3), none, none, some (.iconst (-1), 1), some (.ireturn, 1), some (.aload_n 0, 1), some (.aload_n 0, 1), some (.getfield 11, 3), none, none, some (.iload_n 1, 1), some (.aaload, 1), some (.aload_n 0, 1), some (.getfield 11, 3), none, none, some (.iload_n 2, 1), some (.aaload, 1), some (.iload_n 3, 1), some (.invokevirtual 86, 3), none, none, some (.ireturn, 1)]
def m_B_exchange : am_M := (⟨"SampledBanks", "exchange", "(III)I"⟩, prog_1_method_9_code, 4, (some .int), 0, k_B_exchange)
set_option maxRecDepth 100000 in
theorem dk_B_exchange : am_dk am_Ft false m_B_exchange = true := by decide +kernel
def k_B_areTwoBanks : List (Option (Instr × Nat)) := [some (.iload_n 0, 1), some (.invokestatic 30, 3), none, none, some (.ifCond .eq 19, 3), none, none, some (.iload_n 1, 1), some (.invokestatic 30, 3), none, none, some (.ifCond .eq 12, 3), none, none, some (.iload_n 0, 1), some (.iload_n 1, 1), some (.if_icmp .eq 7, 3), none, none, some (.iconst 1, 1), some (.goto 4, 3), none, none, some (.iconst 0, 1), some (.ireturn, 1)]
def m_B_areTwoBanks : am_M := (⟨"SampledBanks", "areTwoBanks", "(II)Z"⟩, prog_1_method_18_code, 2, (some .boolean), 0, k_B_areTwoBanks)
set_option maxRecDepth 100000 in
theorem dk_B_areTwoBanks : am_dk am_Ft false m_B_areTwoBanks = true := by decide +kernel
def k_B_isReach : List (Option (Instr × Nat)) := [some (.iload_n 0, 1), some (.iconst 1, 1), some (.if_icmp .lt 13, 3), none, none, some (.iload_n 0, 1), some (.bipush 16, 2), none, some (.if_icmp .gt 7, 3), none, none, some (.iconst 1, 1), some (.goto 4, 3), none, none, some (.iconst 0, 1), some (.ireturn, 1)]
def m_B_isReach : am_M := (⟨"SampledBanks", "isReach", "(I)Z"⟩, prog_1_method_20_code, 1, (some .boolean), 0, k_B_isReach)
set_option maxRecDepth 100000 in
theorem dk_B_isReach : am_dk am_Ft false m_B_isReach = true := by decide +kernel
def k_B_runExchange : List (Option (Instr × Nat)) := [some (.aload_n 0, 1), some (.dup, 1), some (.getfield 107, 3), none, none, some (.iload_n 3, 1), some (.iconst 3, 1), some (.iadd, 1), some (.i2l, 1), some (.ladd, 1), some (.putfield 107, 3), none, none, some (.aload_n 0, 1), some (.getfield 26, 3), none, none, some (.aload_n 1, 1), some (.aload_n 2, 1), some (.iload_n 3, 1), some (.invokevirtual 127, 3), none, none, some (.ifCond .ne 6, 3), none, none, some (.bipush (-4), 2), none, some (.ireturn, 1), some (.aload_n 0, 1), some (.getfield 26, 3), none, none, some (.invokevirtual 131, 3), none, none, some (.aload_n 0, 1), some (.getfield 26, 3), none, none, some (.getfield 134, 3), none, none, some (.astore 4, 2), none, some (.aload_n 0, 1), some (.getfield 26, 3), none, none, some (.getfield 138, 3), none, none, some (.astore 5, 2), none, some (.aload_n 0, 1), some (.dup, 1), some (.getfield 107, 3), none, none, some (.aload 4, 2), none, some (.getfield 118, 3), none, none, some (.aload 5, 2), none, some (.getfield 118, 3), none, none, some (.iadd, 1), some (.i2l, 1), some (.ladd, 1), some (.putfield 107, 3), none, none, some (.aload_n 0, 1), some (.getfield 16, 3), none, none, some (.aload_n 2, 1), some (.aload 5, 2), none, some (.invokevirtual 141, 3), none, none, some (.aload_n 0, 1), some (.getfield 20, 3), none, none, some (.aload_n 1, 1), some (.aload 4, 2), none, some (.invokevirtual 141, 3), none, none, some (.aload_n 0, 1), some (.getfield 16, 3), none, none, some (.getfield 48, 3), none, none, some (.aload 5, 2), none, some (.getfield 118, 3), none, none, some (.if_icmp .ne 22, 3), none, none, some (.aload_n 0, 1), some (.getfield 20, 3), none, none, some (.getfield 48, 3), none, none, some (.aload 4, 2), none, some (.getfield 118, 3), none, none, some (.if_icmp .ne 7, 3), none, none, some (.iconst 1, 1), some (.goto 4, 3), none, none, some (.iconst 0, 1), some (.istore 6, 2), none, some (.iload 6, 2), none, some (.ifCond .eq 16, 3), none, none, some (.aload_n 0, 1), some (.getfield 26, 3), none, none, some (.iload_n 3, 1), some (.iconst 2, 1), some (.iadd, 1), some (.invokevirtual 145, 3), none, none, some (.ifCond .ne 6, 3), none, none, some (.bipush (-4), 2), none, some (.ireturn, 1), some (.aload_n 0, 1), some (.aload_n 1, 1), some (.aload_n 2, 1), some (.invokevirtual 148, 3), none, none, some (.istore 7, 2), none, some (.iload 7, 2), none, some (.ifCond .le 17, 3), none, none, some (.aload_n 0, 1), some (.dup, 1), some (.getfield 107, 3), none, none, some (.iconst 2, 1), some (.iload 7, 2), none, some (.imul, 1), some (.i2l, 1), some (.ladd, 1), some (.putfield 107, 3), none, none, some (.iload 7, 2), none, some (.ireturn, 1)]
def m_B_runExchange : am_M := (⟨"SampledBanks", "runExchange", "(LSampledBanks$Records;LSampledBanks$Records;I)I"⟩, prog_1_method_24_code, 8, (some .int), 0, k_B_runExchange)
set_option maxRecDepth 100000 in
theorem dk_B_runExchange : am_dk am_Ft false m_B_runExchange = true := by decide +kernel
def k_A_find : List (Option (Instr × Nat)) := [some (.aload_n 1, 1), some (.getfield 41, 3), none, none, some (.aload_n 2, 1), some (.getfield 41, 3), none, none, some (.isub, 1), some (.istore 4, 2), none, some (.iload 4, 2), none, some (.iload_n 3, 1), some (.if_icmp .gt 10, 3), none, none, some (.iload 4, 2), none, some (.iload_n 3, 1), some (.ineg, 1), some (.if_icmp .ge 5, 3), none, none, some (.iconst 0, 1), some (.ireturn, 1), some (.aload_n 0, 1), some (.aload_n 1, 1), some (.aload_n 2, 1), some (.iload_n 3, 1), some (.iconst 2, 1), some (.iadd, 1), some (.invokevirtual 47, 3), none, none, some (.iload_n 3, 1), some (.iload 4, 2), none, some (.isub, 1), some (.iconst 2, 1), some (.irem, 1), some (.ifCond .ne 7, 3), none, none, some (.iload_n 3, 1), some (.goto 6, 3), none, none, some (.iload_n 3, 1), some (.iconst 1, 1), some (.isub, 1), some (.istore 5, 2), none, some (.iload 5, 2), none, some (.iload 4, 2), none, some (.iadd, 1), some (.iconst 2, 1), some (.idiv, 1), some (.istore 6, 2), none, some (.iload 5, 2), none, some (.iload 4, 2), none, some (.isub, 1), some (.iconst 2, 1), some (.idiv, 1), some (.istore 7, 2), none, some (.iconst 0, 1), some (.istore 8, 2), none, some (.iload 8, 2), none, some (.iload 5, 2), none, some (.if_icmp .ge 43, 3), none, none, some (.aload_n 0, 1), some (.getfield 30, 3), none, none, some (.iload 8, 2), none, some (.ldc2_w 51, 3), none, none, some (.iload 8, 2), none, some (.i2l, 1), some (.ladd, 1), some (.aload_n 0, 1), some (.getfield 34, 3), none, none, some (.iload 8, 2), none, some (.laload, 1), some (.aload_n 0, 1), some (.getfield 38, 3), none, none, some (.iload 8, 2), none, some (.laload, 1), some (.iload 6, 2), none, some (.iload 7, 2), none, some (.invokevirtual 53, 3), none, none, some (.iinc 8 1, 3), none, none, some (.goto (-44), 3), none, none, some (.aload_n 0, 1), some (.getfield 30, 3), none, none, some (.iload 5, 2), none, some (.invokevirtual 57, 3), none, none, some (.ifCond .ne 5, 3), none, none, some (.iconst 0, 1), some (.ireturn, 1), some (.aload_n 0, 1), some (.getfield 12, 3), none, none, some (.aload_n 0, 1), some (.getfield 30, 3), none, none, some (.iconst 0, 1), some (.iload 6, 2), none, some (.invokevirtual 61, 3), none, none, some (.aload_n 0, 1), some (.getfield 18, 3), none, none, some (.aload_n 0, 1), some (.getfield 30, 3), none, none, some (.iload 6, 2), none, some (.iload 7, 2), none, some (.invokevirtual 61, 3), none, none, some (.iconst 1, 1), some (.ireturn, 1)]
def m_A_find : am_M := (⟨"SampledBanks$Fraction", "find", "(LSampledBanks$Records;LSampledBanks$Records;I)Z"⟩, prog_4_method_3_code, 9, (some .boolean), 4, k_A_find)
set_option maxRecDepth 100000 in
theorem dk_A_find : am_dk am_Ft false m_A_find = true := by decide +kernel
def k_A_takeSamples : List (Option (Instr × Nat)) := [some (.iconst 0, 1), some (.istore 4, 2), none, some (.iload 4, 2), none, some (.iload_n 3, 1), some (.if_icmp .ge 45, 3), none, none, some (.aload_n 0, 1), some (.getfield 34, 3), none, none, some (.iload 4, 2), none, some (.aload_n 1, 1), some (.ldc2_w 51, 3), none, none, some (.iload 4, 2), none, some (.i2l, 1), some (.ladd, 1), some (.invokevirtual 91, 3), none, none, some (.lastore, 1), some (.aload_n 0, 1), some (.getfield 38, 3), none, none, some (.iload 4, 2), none, some (.aload_n 2, 1), some (.ldc2_w 51, 3), none, none, some (.iload 4, 2), none, some (.i2l, 1), some (.ladd, 1), some (.invokevirtual 91, 3), none, none, some (.lastore, 1), some (.iinc 4 1, 3), none, none, some (.goto (-45), 3), none, none, some (.return_, 1)]
def m_A_takeSamples : am_M := (⟨"SampledBanks$Fraction", "takeSamples", "(LSampledBanks$Records;LSampledBanks$Records;I)V"⟩, prog_4_method_6_code, 5, none, 4, k_A_takeSamples)
set_option maxRecDepth 100000 in
theorem dk_A_takeSamples : am_dk am_Ft false m_A_takeSamples = true := by decide +kernel
def k_Q_setRow : List (Option (Instr × Nat)) := [some (.aload_n 0, 1), some (.getfield 11, 3), none, none, some (.iload_n 1, 1), some (.aaload, 1), some (.astore 10, 2), none, some (.lload 6, 2), none, some (.lstore 11, 2), none, some (.iconst 0, 1), some (.istore 13, 2), none, some (.iload 13, 2), none, some (.iload 8, 2), none, some (.if_icmp .ge 24, 3), none, none, some (.aload 10, 2), none, some (.iload 13, 2), none, some (.lload 11, 2), none, some (.lastore, 1), some (.lload 11, 2), none, some (.lload_n 2, 1), some (.invokestatic 20, 3), none, none, some (.lstore 11, 2), none, some (.iinc 13 1, 3), none, none, some (.goto (-25), 3), none, none, some (.lconst 0, 1), some (.lload 4, 2), none, some (.invokestatic 26, 3), none, none, some (.lstore 13, 2), none, some (.iconst 0, 1), some (.istore 15, 2), none, some (.iload 15, 2), none, some (.iload 9, 2), none, some (.if_icmp .ge 27, 3), none, none, some (.aload 10, 2), none, some (.iload 8, 2), none, some (.iload 15, 2), none, some (.iadd, 1), some (.lload 13, 2), none, some (.lastore, 1), some (.lload 13, 2), none, some (.lload_n 2, 1), some (.invokestatic 20, 3), none, none, some (.lstore 13, 2), none, some (.iinc 15 1, 3), none, none, some (.goto (-28), 3), none, none, some (.aload 10, 2), none, some (.iload 8, 2), none, some (.iload 9, 2), none, some (.iadd, 1), some (.lconst 0, 1), some (.lload 11, 2), none, some (.lload 13, 2), none, some (.invokestatic 29, 3), none, none, some (.invokestatic 26, 3), none, none, some (.lastore, 1), some (.return_, 1)]
def m_Q_setRow : am_M := (⟨"SampledBanks$Equations", "setRow", "(IJJJII)V"⟩, prog_2_method_2_code, 16, none, 3, k_Q_setRow)
set_option maxRecDepth 100000 in
theorem dk_Q_setRow : am_dk am_Ft false m_Q_setRow = true := by decide +kernel
def k_F_minus : List (Option (Instr × Nat)) := [some (.lload_n 0, 1), some (.ldc2_w 9, 3), none, none, some (.ladd, 1), some (.lload_n 2, 1), some (.lsub, 1), some (.ldc2_w 9, 3), none, none, some (.lrem, 1), some (.lreturn, 1)]
def m_F_minus : am_M := (⟨"SampledBanks$Field", "minus", "(JJ)J"⟩, prog_3_method_3_code, 4, (some .long), 6, k_F_minus)
set_option maxRecDepth 100000 in
theorem dk_F_minus : am_dk am_Ft false m_F_minus = true := by decide +kernel
def k_F_plus : List (Option (Instr × Nat)) := [some (.lload_n 0, 1), some (.lload_n 2, 1), some (.ladd, 1), some (.ldc2_w 9, 3), none, none, some (.lrem, 1), some (.lreturn, 1)]
def m_F_plus : am_M := (⟨"SampledBanks$Field", "plus", "(JJ)J"⟩, prog_3_method_2_code, 4, (some .long), 6, k_F_plus)
set_option maxRecDepth 100000 in
theorem dk_F_plus : am_dk am_Ft false m_F_plus = true := by decide +kernel
def k_Q_solve : List (Option (Instr × Nat)) := [some (.aload_n 0, 1), some (.iload_n 1, 1), some (.putfield 32, 3), none, none, some (.aload_n 0, 1), some (.getfield 16, 3), none, none, some (.iconst (-1), 1), some (.invokestatic 36, 3), none, none, some (.iconst 0, 1), some (.istore_n 2, 1), some (.iconst 0, 1), some (.istore_n 3, 1), some (.iload_n 3, 1), some (.aload_n 0, 1), some (.getfield 32, 3), none, none, some (.if_icmp .ge 66, 3), none, none, some (.aload_n 0, 1), some (.iload_n 2, 1), some (.iload_n 3, 1), some (.invokevirtual 42, 3), none, none, some (.istore 4, 2), none, some (.iload 4, 2), none, some (.aload_n 0, 1), some (.getfield 32, 3), none, none, some (.if_icmp .ge 43, 3), none, none, some (.aload_n 0, 1), some (.iload 4, 2), none, some (.iload_n 2, 1), some (.invokevirtual 46, 3), none, none, some (.aload_n 0, 1), some (.iload_n 2, 1), some (.iload_n 3, 1), some (.aload_n 0, 1), some (.getfield 11, 3), none, none, some (.iload_n 2, 1), some (.aaload, 1), some (.iload_n 3, 1), some (.laload, 1), some (.invokestatic 50, 3), none, none, some (.invokevirtual 54, 3), none, none, some (.aload_n 0, 1), some (.iload_n 2, 1), some (.iload_n 3, 1), some (.invokevirtual 58, 3), none, none, some (.aload_n 0, 1), some (.getfield 16, 3), none, none, some (.iload_n 3, 1), some (.iload_n 2, 1), some (.iastore, 1), some (.iinc 2 1, 3), none, none, some (.iinc 3 1, 3), none, none, some (.goto (-68), 3), none, none, some (.aload_n 0, 1), some (.iload_n 2, 1), some (.invokevirtual 61, 3), none, none, some (.ireturn, 1)]
def m_Q_solve : am_M := (⟨"SampledBanks$Equations", "solve", "(I)Z"⟩, prog_2_method_3_code, 5, (some .boolean), 3, k_Q_solve)
set_option maxRecDepth 100000 in
theorem dk_Q_solve : am_dk am_Ft false m_Q_solve = true := by decide +kernel
def k_J_fill : List (Option (Instr × Nat)) := [some (.iconst 0, 1), some (.istore_n 2, 1), some (.aload_n 0, 1), some (.arraylength, 1), some (.istore_n 3, 1), some (.iload_n 2, 1), some (.iload_n 3, 1), some (.if_icmp .ge 13, 3), none, none, some (.aload_n 0, 1), some (.iload_n 2, 1), some (.iload_n 1, 1), some (.iastore, 1), some (.iinc 2 1, 3), none, none, some (.goto (-12), 3), none, none, some (.return_, 1)]
def m_J_fill : am_M := (⟨"java/util/Arrays", "fill", "([II)V"⟩, prog_11_method_103_code, 4, none, 8, k_J_fill)
set_option maxRecDepth 100000 in
theorem dk_J_fill : am_dk am_Ft false m_J_fill = true := by decide +kernel
end
section
def k_Q_rowWithout0 : List (Option (Instr × Nat)) := [some (.iload_n 1, 1), some (.istore_n 3, 1), some (.iload_n 3, 1), some (.aload_n 0, 1), some (.getfield 32, 3), none, none, some (.if_icmp .ge 22, 3), none, none, some (.aload_n 0, 1), some (.getfield 11, 3), none, none, some (.iload_n 3, 1), some (.aaload, 1), some (.iload_n 2, 1), some (.laload, 1), some (.lconst 0, 1), some (.lcmp, 1), some (.ifCond .ne 9, 3), none, none, some (.iinc 3 1, 3), none, none, some (.goto (-24), 3), none, none, some (.iload_n 3, 1), some (.ireturn, 1)]
def m_Q_rowWithout0 : am_M := (⟨"SampledBanks$Equations", "rowWithout0", "(II)I"⟩, prog_2_method_5_code, 4, (some .int), 3, k_Q_rowWithout0)
set_option maxRecDepth 100000 in
theorem dk_Q_rowWithout0 : am_dk am_Ft false m_Q_rowWithout0 = true := by decide +kernel
def k_Q_swapRows : List (Option (Instr × Nat)) := [some (.aload_n 0, 1), some (.getfield 11, 3), none, none, some (.iload_n 1, 1), some (.aaload, 1), some (.astore_n 3, 1), some (.aload_n 0, 1), some (.getfield 11, 3), none, none, some (.iload_n 1, 1), some (.aload_n 0, 1), some (.getfield 11, 3), none, none, some (.iload_n 2, 1), some (.aaload, 1), some (.aastore, 1), some (.aload_n 0, 1), some (.getfield 11, 3), none, none, some (.iload_n 2, 1), some (.aload_n 3, 1), some (.aastore, 1), some (.return_, 1)]
def m_Q_swapRows : am_M := (⟨"SampledBanks$Equations", "swapRows", "(II)V"⟩, prog_2_method_6_code, 4, none, 3, k_Q_swapRows)
set_option maxRecDepth 100000 in
theorem dk_Q_swapRows : am_dk am_Ft false m_Q_swapRows = true := by decide +kernel
def k_F_inverse : List (Option (Instr × Nat)) := [some (.lconst 1, 1), some (.lstore_n 2, 1), some (.lload_n 0, 1), some (.lstore 4, 2), none, some (.ldc2_w 11, 3), none, none, some (.lstore 6, 2), none, some (.lload 6, 2), none, some (.lconst 0, 1), some (.lcmp, 1), some (.ifCond .le 41, 3), none, none, some (.lload 6, 2), none, some (.lconst 1, 1), some (.land, 1), some (.lconst 1, 1), some (.lcmp, 1), some (.ifCond .ne 12, 3), none, none, some (.lload_n 2, 1), some (.lload 4, 2), none, some (.lmul, 1), some (.ldc2_w 9, 3), none, none, some (.lrem, 1), some (.lstore_n 2, 1), some (.lload 4, 2), none, some (.lload 4, 2), none, some (.lmul, 1), some (.ldc2_w 9, 3), none, none, some (.lrem, 1), some (.lstore 4, 2), none, some (.lload 6, 2), none, some (.iconst 1, 1), some (.lshr, 1), some (.lstore 6, 2), none, some (.goto (-42), 3), none, none, some (.lload_n 2, 1), some (.lreturn, 1)]
def m_F_inverse : am_M := (⟨"SampledBanks$Field", "inverse", "(J)J"⟩, prog_3_method_5_code, 8, (some .long), 6, k_F_inverse)
set_option maxRecDepth 100000 in
theorem dk_F_inverse : am_dk am_Ft false m_F_inverse = true := by decide +kernel
def k_Q_scaleRow : List (Option (Instr × Nat)) := [some (.aload_n 0, 1), some (.getfield 11, 3), none, none, some (.iload_n 1, 1), some (.aaload, 1), some (.astore 5, 2), none, some (.iload_n 2, 1), some (.istore 6, 2), none, some (.iload 6, 2), none, some (.aload_n 0, 1), some (.getfield 32, 3), none, none, some (.if_icmp .gt 23, 3), none, none, some (.aload 5, 2), none, some (.iload 6, 2), none, some (.aload 5, 2), none, some (.iload 6, 2), none, some (.laload, 1), some (.lload_n 3, 1), some (.invokestatic 20, 3), none, none, some (.lastore, 1), some (.iinc 6 1, 3), none, none, some (.goto (-26), 3), none, none, some (.return_, 1)]
def m_Q_scaleRow : am_M := (⟨"SampledBanks$Equations", "scaleRow", "(IIJ)V"⟩, prog_2_method_7_code, 7, none, 3, k_Q_scaleRow)
set_option maxRecDepth 100000 in
theorem dk_Q_scaleRow : am_dk am_Ft false m_Q_scaleRow = true := by decide +kernel
def k_Q_clearColumn : List (Option (Instr × Nat)) := [some (.aload_n 0, 1), some (.getfield 11, 3), none, none, some (.iload_n 1, 1), some (.aaload, 1), some (.astore_n 3, 1), some (.iconst 0, 1), some (.istore 4, 2), none, some (.iload 4, 2), none, some (.aload_n 0, 1), some (.getfield 32, 3), none, none, some (.if_icmp .ge 81, 3), none, none, some (.aload_n 0, 1), some (.getfield 11, 3), none, none, some (.iload 4, 2), none, some (.aaload, 1), some (.astore 5, 2), none, some (.iload 4, 2), none, some (.iload_n 1, 1), some (.if_icmp .ne 7, 3), none, none, some (.lconst 0, 1), some (.goto 7, 3), none, none, some (.aload 5, 2), none, some (.iload_n 2, 1), some (.laload, 1), some (.lstore 6, 2), none, some (.iload_n 2, 1), some (.istore 8, 2), none, some (.lload 6, 2), none, some (.lconst 0, 1), some (.lcmp, 1), some (.ifCond .eq 40, 3), none, none, some (.iload 8, 2), none, some (.aload_n 0, 1), some (.getfield 32, 3), none, none, some (.if_icmp .gt 31, 3), none, none, some (.aload 5, 2), none, some (.iload 8, 2), none, some (.aload 5, 2), none, some (.iload 8, 2), none, some (.laload, 1), some (.lload 6, 2), none, some (.aload_n 3, 1), some (.iload 8, 2), none, some (.laload, 1), some (.invokestatic 20, 3), none, none, some (.invokestatic 26, 3), none, none, some (.lastore, 1), some (.iinc 8 1, 3), none, none, some (.goto (-41), 3), none, none, some (.iinc 4 1, 3), none, none, some (.goto (-84), 3), none, none, some (.return_, 1)]
def m_Q_clearColumn : am_M := (⟨"SampledBanks$Equations", "clearColumn", "(II)V"⟩, prog_2_method_8_code, 9, none, 3, k_Q_clearColumn)
set_option maxRecDepth 100000 in
theorem dk_Q_clearColumn : am_dk am_Ft false m_Q_clearColumn = true := by decide +kernel
def k_Q_rightSidesAre0 : List (Option (Instr × Nat)) := [some (.iload_n 1, 1), some (.istore_n 2, 1), some (.iload_n 2, 1), some (.aload_n 0, 1), some (.getfield 32, 3), none, none, some (.if_icmp .ge 27, 3), none, none, some (.aload_n 0, 1), some (.getfield 11, 3), none, none, some (.iload_n 2, 1), some (.aaload, 1), some (.aload_n 0, 1), some (.getfield 32, 3), none, none, some (.laload, 1), some (.lconst 0, 1), some (.lcmp, 1), some (.ifCond .eq 5, 3), none, none, some (.iconst 0, 1), some (.ireturn, 1), some (.iinc 2 1, 3), none, none, some (.goto (-29), 3), none, none, some (.iconst 1, 1), some (.ireturn, 1)]
def m_Q_rightSidesAre0 : am_M := (⟨"SampledBanks$Equations", "rightSidesAre0", "(I)Z"⟩, prog_2_method_9_code, 3, (some .boolean), 3, k_Q_rightSidesAre0)
set_option maxRecDepth 100000 in
theorem dk_Q_rightSidesAre0 : am_dk am_Ft false m_Q_rightSidesAre0 = true := by decide +kernel
def k_Y_becomeSolution : List (Option (Instr × Nat)) := [some (.iconst 0, 1), some (.istore 4, 2), none, some (.iload 4, 2), none, some (.iload_n 3, 1), some (.if_icmp .ge 24, 3), none, none, some (.aload_n 0, 1), some (.getfield 9, 3), none, none, some (.iload 4, 2), none, some (.aload_n 1, 1), some (.iload_n 2, 1), some (.iload 4, 2), none, some (.iadd, 1), some (.invokevirtual 25, 3), none, none, some (.lastore, 1), some (.iinc 4 1, 3), none, none, some (.goto (-24), 3), none, none, some (.aload_n 0, 1), some (.getfield 9, 3), none, none, some (.iload_n 3, 1), some (.lconst 1, 1), some (.lastore, 1), some (.aload_n 0, 1), some (.iload_n 3, 1), some (.putfield 21, 3), none, none, some (.return_, 1)]
def m_Y_becomeSolution : am_M := (⟨"SampledBanks$Polynomial", "becomeSolution", "(LSampledBanks$Equations;II)V"⟩, prog_5_method_3_code, 5, none, 2, k_Y_becomeSolution)
set_option maxRecDepth 100000 in
theorem dk_Y_becomeSolution : am_dk am_Ft false m_Y_becomeSolution = true := by decide +kernel
def k_Q_unknown : List (Option (Instr × Nat)) := [some (.aload_n 0, 1), some (.getfield 16, 3), none, none, some (.iload_n 1, 1), some (.iaload, 1), some (.istore_n 2, 1), some (.iload_n 2, 1), some (.iconst (-1), 1), some (.if_icmp .ne 7, 3), none, none, some (.lconst 0, 1), some (.goto 14, 3), none, none, some (.aload_n 0, 1), some (.getfield 11, 3), none, none, some (.iload_n 2, 1), some (.aaload, 1), some (.aload_n 0, 1), some (.getfield 32, 3), none, none, some (.laload, 1), some (.lreturn, 1)]
def m_Q_unknown : am_M := (⟨"SampledBanks$Equations", "unknown", "(I)J"⟩, prog_2_method_4_code, 3, (some .long), 3, k_Q_unknown)
set_option maxRecDepth 100000 in
theorem dk_Q_unknown : am_dk am_Ft false m_Q_unknown = true := by decide +kernel
def k_A_reduce : List (Option (Instr × Nat)) := [some (.aload_n 0, 1), some (.getfield 21, 3), none, none, some (.aload_n 0, 1), some (.getfield 12, 3), none, none, some (.invokevirtual 65, 3), none, none, some (.aload_n 0, 1), some (.getfield 24, 3), none, none, some (.aload_n 0, 1), some (.getfield 18, 3), none, none, some (.invokevirtual 65, 3), none, none, some (.aload_n 0, 1), some (.getfield 21, 3), none, none, some (.astore_n 1, 1), some (.aload_n 0, 1), some (.getfield 24, 3), none, none, some (.astore_n 2, 1), some (.iconst 0, 1), some (.istore_n 3, 1), some (.iload_n 3, 1), some (.bipush 16, 2), none, some (.if_icmp .gt 33, 3), none, none, some (.aload_n 2, 1), some (.getfield 69, 3), none, none, some (.ifCond .lt 26, 3), none, none, some (.aload_n 2, 1), some (.invokevirtual 72, 3), none, none, some (.aload_n 1, 1), some (.aload_n 2, 1), some (.invokevirtual 75, 3), none, none, some (.aload_n 1, 1), some (.astore 4, 2), none, some (.aload_n 2, 1), some (.astore_n 1, 1), some (.aload 4, 2), none, some (.astore_n 2, 1), some (.iinc 3 1, 3), none, none, some (.goto (-33), 3), none, none, some (.aload_n 0, 1), some (.getfield 12, 3), none, none, some (.aload_n 1, 1), some (.invokevirtual 78, 3), none, none, some (.aload_n 0, 1), some (.getfield 18, 3), none, none, some (.aload_n 1, 1), some (.invokevirtual 78, 3), none, none, some (.return_, 1)]
def m_A_reduce : am_M := (⟨"SampledBanks$Fraction", "reduce", "()V"⟩, prog_4_method_4_code, 5, none, 4, k_A_reduce)
set_option maxRecDepth 100000 in
theorem dk_A_reduce : am_dk am_Ft false m_A_reduce = true := by decide +kernel
def k_Y_become : List (Option (Instr × Nat)) := [some (.aload_n 1, 1), some (.getfield 9, 3), none, none, some (.iconst 0, 1), some (.aload_n 0, 1), some (.getfield 9, 3), none, none, some (.iconst 0, 1), some (.aload_n 0, 1), some (.getfield 9, 3), none, none, some (.arraylength, 1), some (.invokestatic 15, 3), none, none, some (.aload_n 0, 1), some (.aload_n 1, 1), some (.getfield 21, 3), none, none, some (.putfield 21, 3), none, none, some (.return_, 1)]
def m_Y_become : am_M := (⟨"SampledBanks$Polynomial", "become", "(LSampledBanks$Polynomial;)V"⟩, prog_5_method_2_code, 2, none, 2, k_Y_become)
set_option maxRecDepth 100000 in
theorem dk_Y_become : am_dk am_Ft false m_Y_become = true := by decide +kernel
def k_Y_makeHighestOne : List (Option (Instr × Nat)) := [some (.aload_n 0, 1), some (.getfield 21, 3), none, none, some (.ifCond .ge 4, 3), none, none, some (.return_, 1), some (.aload_n 0, 1), some (.getfield 9, 3), none, none, some (.aload_n 0, 1), some (.getfield 21, 3), none, none, some (.laload, 1), some (.invokestatic 40, 3), none, none, some (.lstore_n 1, 1), some (.iconst 0, 1), some (.istore_n 3, 1), some (.iload_n 3, 1), some (.aload_n 0, 1), some (.getfield 21, 3), none, none, some (.if_icmp .gt 25, 3), none, none, some (.aload_n 0, 1), some (.getfield 9, 3), none, none, some (.iload_n 3, 1), some (.aload_n 0, 1), some (.getfield 9, 3), none, none, some (.iload_n 3, 1), some (.laload, 1), some (.lload_n 1, 1), some (.invokestatic 31, 3), none, none, some (.lastore, 1), some (.iinc 3 1, 3), none, none, some (.goto (-27), 3), none, none, some (.return_, 1)]
def m_Y_makeHighestOne : am_M := (⟨"SampledBanks$Polynomial", "makeHighestOne", "()V"⟩, prog_5_method_5_code, 4, none, 2, k_Y_makeHighestOne)
set_option maxRecDepth 100000 in
theorem dk_Y_makeHighestOne : am_dk am_Ft false m_Y_makeHighestOne = true := by decide +kernel
def k_Y_becomeRemainder : List (Option (Instr × Nat)) := [some (.aload_n 0, 1), some (.aload_n 1, 1), some (.invokevirtual 44, 3), none, none, some (.aload_n 0, 1), some (.aload_n 0, 1), some (.getfield 21, 3), none, none, some (.aload_n 1, 1), some (.getfield 21, 3), none, none, some (.iconst 1, 1), some (.isub, 1), some (.invokestatic 48, 3), none, none, some (.putfield 21, 3), none, none, some (.aload_n 0, 1), some (.getfield 21, 3), none, none, some (.ifCond .lt 30, 3), none, none, some (.aload_n 0, 1), some (.getfield 9, 3), none, none, some (.aload_n 0, 1), some (.getfield 21, 3), none, none, some (.laload, 1), some (.lconst 0, 1), some (.lcmp, 1), some (.ifCond .ne 16, 3), none, none, some (.aload_n 0, 1), some (.dup, 1), some (.getfield 21, 3), none, none, some (.iconst 1, 1), some (.isub, 1), some (.putfield 21, 3), none, none, some (.goto (-31), 3), none, none, some (.return_, 1)]
def m_Y_becomeRemainder : am_M := (⟨"SampledBanks$Polynomial", "becomeRemainder", "(LSampledBanks$Polynomial;)V"⟩, prog_5_method_6_code, 2, none, 2, k_Y_becomeRemainder)
set_option maxRecDepth 100000 in
theorem dk_Y_becomeRemainder : am_dk am_Ft false m_Y_becomeRemainder = true := by decide +kernel
def k_Y_divideInPlace : List (Option (Instr × Nat)) := [some (.aload_n 0, 1), some (.getfield 21, 3), none, none, some (.aload_n 1, 1), some (.getfield 21, 3), none, none, some (.isub, 1), some (.istore_n 2, 1), some (.iload_n 2, 1), some (.ifCond .lt 75, 3), none, none, some (.aload_n 0, 1), some (.getfield 9, 3), none, none, some (.iload_n 2, 1), some (.aload_n 1, 1), some (.getfield 21, 3), none, none, some (.iadd, 1), some (.laload, 1), some (.lstore_n 3, 1), some (.iconst 0, 1), some (.istore 5, 2), none, some (.iload 5, 2), none, some (.aload_n 1, 1), some (.getfield 21, 3), none, none, some (.if_icmp .ge 45, 3), none, none, some (.lload_n 3, 1), some (.aload_n 1, 1), some (.getfield 9, 3), none, none, some (.iload 5, 2), none, some (.laload, 1), some (.invokestatic 31, 3), none, none, some (.lstore 6, 2), none, some (.aload_n 0, 1), some (.getfield 9, 3), none, none, some (.iload_n 2, 1), some (.iload 5, 2), none, some (.iadd, 1), some (.aload_n 0, 1), some (.getfield 9, 3), none, none, some (.iload_n 2, 1), some (.iload 5, 2), none, some (.iadd, 1), some (.laload, 1), some (.lload 6, 2), none, some (.invokestatic 54, 3), none, none, some (.lastore, 1), some (.iinc 5 1, 3), none, none, some (.goto (-48), 3), none, none, some (.iinc 2 (-1), 3), none, none, some (.goto (-73), 3), none, none, some (.return_, 1)]
def m_Y_divideInPlace : am_M := (⟨"SampledBanks$Polynomial", "divideInPlace", "(LSampledBanks$Polynomial;)V"⟩, prog_5_method_8_code, 8, none, 2, k_Y_divideInPlace)
set_option maxRecDepth 100000 in
theorem dk_Y_divideInPlace : am_dk am_Ft false m_Y_divideInPlace = true := by decide +kernel
def k_Y_becomeQuotient : List (Option (Instr × Nat)) := [some (.aload_n 0, 1), some (.aload_n 1, 1), some (.invokevirtual 44, 3), none, none, some (.aload_n 0, 1), some (.dup, 1), some (.getfield 21, 3), none, none, some (.aload_n 1, 1), some (.getfield 21, 3), none, none, some (.isub, 1), some (.putfield 21, 3), none, none, some (.iconst 0, 1), some (.istore_n 2, 1), some (.iload_n 2, 1), some (.aload_n 0, 1), some (.getfield 21, 3), none, none, some (.if_icmp .gt 26, 3), none, none, some (.aload_n 0, 1), some (.getfield 9, 3), none, none, some (.iload_n 2, 1), some (.aload_n 0, 1), some (.getfield 9, 3), none, none, some (.iload_n 2, 1), some (.aload_n 1, 1), some (.getfield 21, 3), none, none, some (.iadd, 1), some (.laload, 1), some (.lastore, 1), some (.iinc 2 1, 3), none, none, some (.goto (-28), 3), none, none, some (.return_, 1)]
def m_Y_becomeQuotient : am_M := (⟨"SampledBanks$Polynomial", "becomeQuotient", "(LSampledBanks$Polynomial;)V"⟩, prog_5_method_7_code, 3, none, 2, k_Y_becomeQuotient)
set_option maxRecDepth 100000 in
theorem dk_Y_becomeQuotient : am_dk am_Ft false m_Y_becomeQuotient = true := by decide +kernel
def k_R_becomeZerosAmong : List (Option (Instr × Nat)) := [some (.aload_n 0, 1), some (.iconst 0, 1), some (.putfield 22, 3), none, none, some (.iconst 0, 1), some (.istore_n 3, 1), some (.iload_n 3, 1), some (.aload_n 1, 1), some (.getfield 22, 3), none, none, some (.if_icmp .ge 45, 3), none, none, some (.aload_n 2, 1), some (.aload_n 1, 1), some (.getfield 9, 3), none, none, some (.iload_n 3, 1), some (.iaload, 1), some (.i2l, 1), some (.invokevirtual 44, 3), none, none, some (.lconst 0, 1), some (.lcmp, 1), some (.ifCond .ne 23, 3), none, none, some (.aload_n 0, 1), some (.aload_n 1, 1), some (.iload_n 3, 1), some (.aload_n 0, 1), some (.getfield 22, 3), none, none, some (.invokevirtual 34, 3), none, none, some (.aload_n 0, 1), some (.dup, 1), some (.getfield 22, 3), none, none, some (.iconst 1, 1), some (.iadd, 1), some (.putfield 22, 3), none, none, some (.iinc 3 1, 3), none, none, some (.goto (-47), 3), none, none, some (.return_, 1)]
def m_R_becomeZerosAmong : am_M := (⟨"SampledBanks$Records", "becomeZerosAmong", "(LSampledBanks$Records;LSampledBanks$Polynomial;)V"⟩, prog_6_method_9_code, 4, none, 1, k_R_becomeZerosAmong)
set_option maxRecDepth 100000 in
theorem dk_R_becomeZerosAmong : am_dk am_Ft false m_R_becomeZerosAmong = true := by decide +kernel
def k_Y_valueAt : List (Option (Instr × Nat)) := [some (.lconst 0, 1), some (.lstore_n 3, 1), some (.aload_n 0, 1), some (.getfield 21, 3), none, none, some (.istore 5, 2), none, some (.iload 5, 2), none, some (.ifCond .lt 25, 3), none, none, some (.lload_n 3, 1), some (.lload_n 1, 1), some (.invokestatic 31, 3), none, none, some (.aload_n 0, 1), some (.getfield 9, 3), none, none, some (.iload 5, 2), none, some (.laload, 1), some (.invokestatic 37, 3), none, none, some (.lstore_n 3, 1), some (.iinc 5 (-1), 3), none, none, some (.goto (-24), 3), none, none, some (.lload_n 3, 1), some (.lreturn, 1)]
def m_Y_valueAt : am_M := (⟨"SampledBanks$Polynomial", "valueAt", "(J)J"⟩, prog_5_method_4_code, 6, (some .long), 2, k_Y_valueAt)
set_option maxRecDepth 100000 in
theorem dk_Y_valueAt : am_dk am_Ft false m_Y_valueAt = true := by decide +kernel
def k_A_fitsSamples : List (Option (Instr × Nat)) := [some (.iconst 0, 1), some (.istore_n 2, 1), some (.iload_n 2, 1), some (.iload_n 1, 1), some (.if_icmp .ge 64, 3), none, none, some (.ldc2_w 51, 3), none, none, some (.iload_n 2, 1), some (.i2l, 1), some (.ladd, 1), some (.lstore_n 3, 1), some (.aload_n 0, 1), some (.getfield 12, 3), none, none, some (.lload_n 3, 1), some (.invokevirtual 81, 3), none, none, some (.aload_n 0, 1), some (.getfield 38, 3), none, none, some (.iload_n 2, 1), some (.laload, 1), some (.invokestatic 85, 3), none, none, some (.lstore 5, 2), none, some (.aload_n 0, 1), some (.getfield 18, 3), none, none, some (.lload_n 3, 1), some (.invokevirtual 81, 3), none, none, some (.aload_n 0, 1), some (.getfield 34, 3), none, none, some (.iload_n 2, 1), some (.laload, 1), some (.invokestatic 85, 3), none, none, some (.lstore 7, 2), none, some (.lload 5, 2), none, some (.lload 7, 2), none, some (.lcmp, 1), some (.ifCond .eq 5, 3), none, none, some (.iconst 0, 1), some (.ireturn, 1), some (.iinc 2 1, 3), none, none, some (.goto (-63), 3), none, none, some (.iconst 1, 1), some (.ireturn, 1)]
def m_A_fitsSamples : am_M := (⟨"SampledBanks$Fraction", "fitsSamples", "(I)Z"⟩, prog_4_method_5_code, 9, (some .boolean), 4, k_A_fitsSamples)
set_option maxRecDepth 100000 in
theorem dk_A_fitsSamples : am_dk am_Ft false m_A_fitsSamples = true := by decide +kernel
def k_B_deliverParcels : List (Option (Instr × Nat)) := [some (.aload_n 0, 1), some (.getfield 16, 3), none, none, some (.aload_n 1, 1), some (.invokevirtual 155, 3), none, none, some (.aload_n 0, 1), some (.getfield 20, 3), none, none, some (.aload_n 2, 1), some (.invokevirtual 155, 3), none, none, some (.aload_n 1, 1), some (.aload_n 0, 1), some (.getfield 16, 3), none, none, some (.invokevirtual 158, 3), none, none, some (.bipush 64, 2), none, some (.if_icmp .gt 16, 3), none, none, some (.aload_n 2, 1), some (.aload_n 0, 1), some (.getfield 20, 3), none, none, some (.invokevirtual 158, 3), none, none, some (.bipush 64, 2), none, some (.if_icmp .le 6, 3), none, none, some (.bipush (-3), 2), none, some (.ireturn, 1), some (.aload_n 1, 1), some (.aload_n 0, 1), some (.getfield 16, 3), none, none, some (.invokevirtual 161, 3), none, none, some (.aload_n 2, 1), some (.aload_n 0, 1), some (.getfield 20, 3), none, none, some (.invokevirtual 161, 3), none, none, some (.aload_n 0, 1), some (.getfield 16, 3), none, none, some (.getfield 48, 3), none, none, some (.aload_n 0, 1), some (.getfield 20, 3), none, none, some (.getfield 48, 3), none, none, some (.iadd, 1), some (.ireturn, 1)]
def m_B_deliverParcels : am_M := (⟨"SampledBanks", "deliverParcels", "(LSampledBanks$Records;LSampledBanks$Records;)I"⟩, prog_1_method_26_code, 3, (some .int), 0, k_B_deliverParcels)
set_option maxRecDepth 100000 in
theorem dk_B_deliverParcels : am_dk am_Ft false m_B_deliverParcels = true := by decide +kernel
def k_R_keepNewsFor : List (Option (Instr × Nat)) := [some (.aload_n 0, 1), some (.getfield 22, 3), none, none, some (.istore_n 2, 1), some (.aload_n 0, 1), some (.iconst 0, 1), some (.putfield 22, 3), none, none, some (.iconst 0, 1), some (.istore_n 3, 1), some (.iload_n 3, 1), some (.iload_n 2, 1), some (.if_icmp .ge 76, 3), none, none, some (.aload_n 0, 1), some (.getfield 9, 3), none, none, some (.iload_n 3, 1), some (.iaload, 1), some (.sipush 1024, 3), none, none, some (.idiv, 1), some (.istore 4, 2), none, some (.aload_n 1, 1), some (.iload 4, 2), none, some (.invokevirtual 26, 3), none, none, some (.istore 5, 2), none, some (.aload_n 1, 1), some (.iload 5, 2), none, some (.iload 4, 2), none, some (.invokevirtual 30, 3), none, none, some (.ifCond .eq 19, 3), none, none, some (.aload_n 1, 1), some (.getfield 9, 3), none, none, some (.iload 5, 2), none, some (.iaload, 1), some (.aload_n 0, 1), some (.getfield 9, 3), none, none, some (.iload_n 3, 1), some (.iaload, 1), some (.if_icmp .ge 23, 3), none, none, some (.aload_n 0, 1), some (.aload_n 0, 1), some (.iload_n 3, 1), some (.aload_n 0, 1), some (.getfield 22, 3), none, none, some (.invokevirtual 34, 3), none, none, some (.aload_n 0, 1), some (.dup, 1), some (.getfield 22, 3), none, none, some (.iconst 1, 1), some (.iadd, 1), some (.putfield 22, 3), none, none, some (.iinc 3 1, 3), none, none, some (.goto (-75), 3), none, none, some (.return_, 1)]
def m_R_keepNewsFor : am_M := (⟨"SampledBanks$Records", "keepNewsFor", "(LSampledBanks$Records;)V"⟩, prog_6_method_10_code, 6, none, 1, k_R_keepNewsFor)
set_option maxRecDepth 100000 in
theorem dk_R_keepNewsFor : am_dk am_Ft false m_R_keepNewsFor = true := by decide +kernel
def k_R_countWith : List (Option (Instr × Nat)) := [some (.aload_n 0, 1), some (.getfield 22, 3), none, none, some (.istore_n 2, 1), some (.iconst 0, 1), some (.istore_n 3, 1), some (.iload_n 3, 1), some (.aload_n 1, 1), some (.getfield 22, 3), none, none, some (.if_icmp .ge 39, 3), none, none, some (.aload_n 1, 1), some (.getfield 9, 3), none, none, some (.iload_n 3, 1), some (.iaload, 1), some (.sipush 1024, 3), none, none, some (.idiv, 1), some (.istore 4, 2), none, some (.aload_n 0, 1), some (.aload_n 0, 1), some (.iload 4, 2), none, some (.invokevirtual 26, 3), none, none, some (.iload 4, 2), none, some (.invokevirtual 30, 3), none, none, some (.ifCond .ne 6, 3), none, none, some (.iinc 2 1, 3), none, none, some (.iinc 3 1, 3), none, none, some (.goto (-41), 3), none, none, some (.iload_n 2, 1), some (.ireturn, 1)]
def m_R_countWith : am_M := (⟨"SampledBanks$Records", "countWith", "(LSampledBanks$Records;)I"⟩, prog_6_method_12_code, 5, (some .int), 1, k_R_countWith)
set_option maxRecDepth 100000 in
theorem dk_R_countWith : am_dk am_Ft false m_R_countWith = true := by decide +kernel
def k_R_storeAll : List (Option (Instr × Nat)) := [some (.iconst 0, 1), some (.istore_n 2, 1), some (.iload_n 2, 1), some (.aload_n 1, 1), some (.getfield 22, 3), none, none, some (.if_icmp .ge 31, 3), none, none, some (.aload_n 0, 1), some (.aload_n 1, 1), some (.getfield 9, 3), none, none, some (.iload_n 2, 1), some (.iaload, 1), some (.aload_n 1, 1), some (.getfield 15, 3), none, none, some (.iload_n 2, 1), some (.iaload, 1), some (.aload_n 1, 1), some (.getfield 18, 3), none, none, some (.iload_n 2, 1), some (.baload, 1), some (.invokevirtual 50, 3), none, none, some (.iinc 2 1, 3), none, none, some (.goto (-33), 3), none, none, some (.return_, 1)]
def m_R_storeAll : am_M := (⟨"SampledBanks$Records", "storeAll", "(LSampledBanks$Records;)V"⟩, prog_6_method_13_code, 3, none, 1, k_R_storeAll)
set_option maxRecDepth 100000 in
theorem dk_R_storeAll : am_dk am_Ft false m_R_storeAll = true := by decide +kernel
def k_B_list : List (Option (Instr × Nat)) := [some (.iload_n 1, 1), some (.iload_n 2, 1), some (.invokestatic 80, 3), none, none, some (.ifCond .ne 5, 3), none, none, some (.iconst (-1), 1), some (.ireturn, 1), some (.aload_n 0, 1), some (.aload_n 0, 1), some (.getfield 11, 3), none, none, some (.iload_n 1, 1), some (.aaload, 1), some (.aload_n 0, 1), some (.getfield 11, 3), none, none, some (.iload_n 2, 1), some (.aaload, 1), some (.invokevirtual 90, 3), none, none, some (.ireturn, 1)]
def m_B_list : am_M := (⟨"SampledBanks", "list", "(II)I"⟩, prog_1_method_10_code, 3, (some .int), 0, k_B_list)
set_option maxRecDepth 100000 in
theorem dk_B_list : am_dk am_Ft false m_B_list = true := by decide +kernel
def k_B_runListing : List (Option (Instr × Nat)) := [some (.aload_n 0, 1), some (.dup, 1), some (.getfield 107, 3), none, none, some (.iconst 2, 1), some (.aload_n 1, 1), some (.getfield 48, 3), none, none, some (.aload_n 2, 1), some (.getfield 48, 3), none, none, some (.iadd, 1), some (.imul, 1), some (.i2l, 1), some (.ladd, 1), some (.putfield 107, 3), none, none, some (.aload_n 0, 1), some (.getfield 16, 3), none, none, some (.aload_n 2, 1), some (.invokevirtual 151, 3), none, none, some (.aload_n 0, 1), some (.getfield 20, 3), none, none, some (.aload_n 1, 1), some (.invokevirtual 151, 3), none, none, some (.aload_n 0, 1), some (.aload_n 1, 1), some (.aload_n 2, 1), some (.invokevirtual 148, 3), none, none, some (.ireturn, 1)]
def m_B_runListing : am_M := (⟨"SampledBanks", "runListing", "(LSampledBanks$Records;LSampledBanks$Records;)I"⟩, prog_1_method_25_code, 3, (some .int), 0, k_B_runListing)
set_option maxRecDepth 100000 in
theorem dk_B_runListing : am_dk am_Ft false m_B_runListing = true := by decide +kernel
end
section
def k_R_becomeAllOf : List (Option (Instr × Nat)) := [some (.aload_n 0, 1), some (.iconst 0, 1), some (.putfield 22, 3), none, none, some (.iconst 0, 1), some (.istore_n 2, 1), some (.iload_n 2, 1), some (.aload_n 1, 1), some (.getfield 22, 3), none, none, some (.if_icmp .ge 29, 3), none, none, some (.aload_n 0, 1), some (.aload_n 1, 1), some (.iload_n 2, 1), some (.aload_n 0, 1), some (.getfield 22, 3), none, none, some (.invokevirtual 34, 3), none, none, some (.aload_n 0, 1), some (.dup, 1), some (.getfield 22, 3), none, none, some (.iconst 1, 1), some (.iadd, 1), some (.putfield 22, 3), none, none, some (.iinc 2 1, 3), none, none, some (.goto (-31), 3), none, none, some (.return_, 1)]
def m_R_becomeAllOf : am_M := (⟨"SampledBanks$Records", "becomeAllOf", "(LSampledBanks$Records;)V"⟩, prog_6_method_8_code, 3, none, 1, k_R_becomeAllOf)
set_option maxRecDepth 100000 in
theorem dk_R_becomeAllOf : am_dk am_Ft false m_R_becomeAllOf = true := by decide +kernel
def k_B_settle : List (Option (Instr × Nat)) := [some (.iload_n 1, 1), some (.iload_n 2, 1), some (.invokestatic 80, 3), none, none, some (.ifCond .eq 10, 3), none, none, some (.iload_n 3, 1), some (.invokestatic 83, 3), none, none, some (.ifCond .ne 5, 3), none, none, some (.iconst (-1), 1), some (.ireturn, 1), some (.aload_n 0, 1), some (.aload_n 0, 1), some (.getfield 11, 3), none, none, some (.iload_n 1, 1), some (.aaload, 1), some (.aload_n 0, 1), some (.getfield 11, 3), none, none, some (.iload_n 2, 1), some (.aaload, 1), some (.iload_n 3, 1), some (.invokevirtual 94, 3), none, none, some (.ireturn, 1)]
def m_B_settle : am_M := (⟨"SampledBanks", "settle", "(III)I"⟩, prog_1_method_11_code, 4, (some .int), 0, k_B_settle)
set_option maxRecDepth 100000 in
theorem dk_B_settle : am_dk am_Ft false m_B_settle = true := by decide +kernel
def k_B_runSettling : List (Option (Instr × Nat)) := [some (.iload_n 3, 1), some (.istore 4, 2), none, some (.aload_n 0, 1), some (.aload_n 1, 1), some (.aload_n 2, 1), some (.iload 4, 2), none, some (.invokevirtual 86, 3), none, none, some (.istore 5, 2), none, some (.iload 5, 2), none, some (.bipush (-4), 2), none, some (.if_icmp .ne 34, 3), none, none, some (.iload 4, 2), none, some (.bipush 16, 2), none, some (.if_icmp .ge 27, 3), none, none, some (.iconst 2, 1), some (.iload 4, 2), none, some (.imul, 1), some (.bipush 16, 2), none, some (.invokestatic 164, 3), none, none, some (.istore 4, 2), none, some (.aload_n 0, 1), some (.aload_n 1, 1), some (.aload_n 2, 1), some (.iload 4, 2), none, some (.invokevirtual 86, 3), none, none, some (.istore 5, 2), none, some (.goto (-35), 3), none, none, some (.iload 5, 2), none, some (.bipush (-4), 2), none, some (.if_icmp .ne 12, 3), none, none, some (.aload_n 0, 1), some (.aload_n 1, 1), some (.aload_n 2, 1), some (.invokevirtual 90, 3), none, none, some (.goto 5, 3), none, none, some (.iload 5, 2), none, some (.ireturn, 1)]
def m_B_runSettling : am_M := (⟨"SampledBanks", "runSettling", "(LSampledBanks$Records;LSampledBanks$Records;I)I"⟩, prog_1_method_27_code, 6, (some .int), 0, k_B_runSettling)
set_option maxRecDepth 100000 in
theorem dk_B_runSettling : am_dk am_Ft false m_B_runSettling = true := by decide +kernel
def k_B_spread : List (Option (Instr × Nat)) := [some (.iload_n 1, 1), some (.invokestatic 83, 3), none, none, some (.ifCond .ne 5, 3), none, none, some (.iconst (-1), 1), some (.ireturn, 1), some (.iconst 0, 1), some (.istore_n 2, 1), some (.iconst 0, 1), some (.istore_n 3, 1), some (.iload_n 3, 1), some (.getstatic 97, 3), none, none, some (.arraylength, 1), some (.if_icmp .ge 51, 3), none, none, some (.aload_n 0, 1), some (.aload_n 0, 1), some (.getfield 11, 3), none, none, some (.getstatic 97, 3), none, none, some (.iload_n 3, 1), some (.iaload, 1), some (.aaload, 1), some (.aload_n 0, 1), some (.getfield 11, 3), none, none, some (.getstatic 100, 3), none, none, some (.iload_n 3, 1), some (.iaload, 1), some (.aaload, 1), some (.iload_n 1, 1), some (.invokevirtual 94, 3), none, none, some (.istore 4, 2), none, some (.iload 4, 2), none, some (.bipush (-3), 2), none, some (.if_icmp .ne 6, 3), none, none, some (.bipush (-3), 2), none, some (.ireturn, 1), some (.iload_n 2, 1), some (.iload 4, 2), none, some (.iadd, 1), some (.istore_n 2, 1), some (.iinc 3 1, 3), none, none, some (.goto (-53), 3), none, none, some (.iload_n 2, 1), some (.ireturn, 1)]
def m_B_spread : am_M := (⟨"SampledBanks", "spread", "(I)I"⟩, prog_1_method_12_code, 5, (some .int), 0, k_B_spread)
set_option maxRecDepth 100000 in
theorem dk_B_spread : am_dk am_Ft false m_B_spread = true := by decide +kernel
def k_B_difference : List (Option (Instr × Nat)) := [some (.iload_n 1, 1), some (.iload_n 2, 1), some (.invokestatic 80, 3), none, none, some (.ifCond .ne 5, 3), none, none, some (.iconst (-1), 1), some (.ireturn, 1), some (.aload_n 0, 1), some (.getfield 11, 3), none, none, some (.iload_n 1, 1), some (.aaload, 1), some (.astore_n 3, 1), some (.aload_n 0, 1), some (.getfield 11, 3), none, none, some (.iload_n 2, 1), some (.aaload, 1), some (.astore 4, 2), none, some (.aload_n 3, 1), some (.getfield 48, 3), none, none, some (.aload 4, 2), none, some (.getfield 48, 3), none, none, some (.iadd, 1), some (.iconst 2, 1), some (.aload_n 3, 1), some (.aload 4, 2), none, some (.invokevirtual 103, 3), none, none, some (.imul, 1), some (.isub, 1), some (.ireturn, 1)]
def m_B_difference : am_M := (⟨"SampledBanks", "difference", "(II)I"⟩, prog_1_method_13_code, 5, (some .int), 0, k_B_difference)
set_option maxRecDepth 100000 in
theorem dk_B_difference : am_dk am_Ft false m_B_difference = true := by decide +kernel
def k_R_wordsSharedWith : List (Option (Instr × Nat)) := [some (.iconst 0, 1), some (.istore_n 2, 1), some (.iconst 0, 1), some (.istore_n 3, 1), some (.iload_n 3, 1), some (.aload_n 0, 1), some (.getfield 22, 3), none, none, some (.if_icmp .ge 53, 3), none, none, some (.aload_n 1, 1), some (.aload_n 0, 1), some (.getfield 9, 3), none, none, some (.iload_n 3, 1), some (.iaload, 1), some (.sipush 1024, 3), none, none, some (.idiv, 1), some (.invokevirtual 26, 3), none, none, some (.istore 4, 2), none, some (.iload 4, 2), none, some (.aload_n 1, 1), some (.getfield 22, 3), none, none, some (.if_icmp .ge 22, 3), none, none, some (.aload_n 1, 1), some (.getfield 9, 3), none, none, some (.iload 4, 2), none, some (.iaload, 1), some (.aload_n 0, 1), some (.getfield 9, 3), none, none, some (.iload_n 3, 1), some (.iaload, 1), some (.if_icmp .ne 6, 3), none, none, some (.iinc 2 1, 3), none, none, some (.iinc 3 1, 3), none, none, some (.goto (-55), 3), none, none, some (.iload_n 2, 1), some (.ireturn, 1)]
def m_R_wordsSharedWith : am_M := (⟨"SampledBanks$Records", "wordsSharedWith", "(LSampledBanks$Records;)I"⟩, prog_6_method_7_code, 5, (some .int), 1, k_R_wordsSharedWith)
set_option maxRecDepth 100000 in
theorem dk_R_wordsSharedWith : am_dk am_Ft false m_R_wordsSharedWith = true := by decide +kernel
def k_B_sent : List (Option (Instr × Nat)) := [some (.aload_n 0, 1), some (.getfield 107, 3), none, none, some (.lreturn, 1)]
def m_B_sent : am_M := (⟨"SampledBanks", "sent", "()J"⟩, prog_1_method_14_code, 1, (some .long), 0, k_B_sent)
set_option maxRecDepth 100000 in
theorem dk_B_sent : am_dk am_Ft false m_B_sent = true := by decide +kernel
def k_B_degree : List (Option (Instr × Nat)) := [some (.iload_n 1, 1), some (.invokestatic 111, 3), none, none, some (.ifCond .eq 17, 3), none, none, some (.aload_n 0, 1), some (.getfield 26, 3), none, none, some (.iload_n 1, 1), some (.invokevirtual 114, 3), none, none, some (.getfield 118, 3), none, none, some (.goto 4, 3), none, none, some (.iconst (-1), 1), some (.ireturn, 1)]
def m_B_degree : am_M := (⟨"SampledBanks", "degree", "(I)I"⟩, prog_1_method_15_code, 2, (some .int), 0, k_B_degree)
set_option maxRecDepth 100000 in
theorem dk_B_degree : am_dk am_Ft false m_B_degree = true := by decide +kernel
def k_B_isPart : List (Option (Instr × Nat)) := [some (.iload_n 0, 1), some (.ifCond .eq 8, 3), none, none, some (.iload_n 0, 1), some (.iconst 1, 1), some (.if_icmp .ne 7, 3), none, none, some (.iconst 1, 1), some (.goto 4, 3), none, none, some (.iconst 0, 1), some (.ireturn, 1)]
def m_B_isPart : am_M := (⟨"SampledBanks", "isPart", "(I)Z"⟩, prog_1_method_21_code, 1, (some .boolean), 0, k_B_isPart)
set_option maxRecDepth 100000 in
theorem dk_B_isPart : am_dk am_Ft false m_B_isPart = true := by decide +kernel
def k_A_part : List (Option (Instr × Nat)) := [some (.iload_n 1, 1), some (.ifCond .ne 10, 3), none, none, some (.aload_n 0, 1), some (.getfield 12, 3), none, none, some (.goto 7, 3), none, none, some (.aload_n 0, 1), some (.getfield 18, 3), none, none, some (.areturn, 1)]
def m_A_part : am_M := (⟨"SampledBanks$Fraction", "part", "(I)LSampledBanks$Polynomial;"⟩, prog_4_method_2_code, 2, (some (.object "SampledBanks$Polynomial")), 4, k_A_part)
set_option maxRecDepth 100000 in
theorem dk_A_part : am_dk am_Ft false m_A_part = true := by decide +kernel
def k_B_factor : List (Option (Instr × Nat)) := [some (.iload_n 1, 1), some (.invokestatic 111, 3), none, none, some (.ifCond .eq 22, 3), none, none, some (.iload_n 2, 1), some (.ifCond .lt 18, 3), none, none, some (.iload_n 2, 1), some (.aload_n 0, 1), some (.getfield 26, 3), none, none, some (.iload_n 1, 1), some (.invokevirtual 114, 3), none, none, some (.getfield 118, 3), none, none, some (.if_icmp .le 5, 3), none, none, some (.iconst (-1), 1), some (.ireturn, 1), some (.aload_n 0, 1), some (.getfield 26, 3), none, none, some (.iload_n 1, 1), some (.invokevirtual 114, 3), none, none, some (.getfield 123, 3), none, none, some (.iload_n 2, 1), some (.laload, 1), some (.l2i, 1), some (.ireturn, 1)]
def m_B_factor : am_M := (⟨"SampledBanks", "factor", "(II)I"⟩, prog_1_method_16_code, 3, (some .int), 0, k_B_factor)
set_option maxRecDepth 100000 in
theorem dk_B_factor : am_dk am_Ft false m_B_factor = true := by decide +kernel
def k_M_init : List (Option (Instr × Nat)) := [some (.aload_n 0, 1), some (.invokespecial 1, 3), none, none, some (.aload_n 0, 1), some (.iconst 4, 1), some (.newarray .int, 2), none, some (.putfield 7, 3), none, none, some (.aload_n 0, 1), some (.sipush 256, 3), none, none, some (.newarray .int, 2), none, some (.putfield 13, 3), none, none, some (.aload_n 0, 1), some (.sipush 256, 3), none, none, some (.newarray .int, 2), none, some (.putfield 16, 3), none, none, some (.aload_n 0, 1), some (.sipush 256, 3), none, none, some (.newarray .int, 2), none, some (.putfield 19, 3), none, none, some (.aload_n 0, 1), some (.sipush 256, 3), none, none, some (.newarray .boolean, 2), none, some (.putfield 22, 3), none, none, some (.aload_n 0, 1), some (.bipush 17, 2), none, some (.newarray .long, 2), none, some (.putfield 26, 3), none, none, some (.aload_n 0, 1), some (.bipush 17, 2), none, some (.newarray .long, 2), none, some (.putfield 30, 3), none, none, some (.aload_n 0, 1), some (.sipush 612, 3), none, none, some (.newarray .long, 2), none, some (.putfield 33, 3), none, none, some (.aload_n 0, 1), some (.bipush 18, 2), none, some (.newarray .long, 2), none, some (.putfield 36, 3), none, none, some (.aload_n 0, 1), some (.bipush 17, 2), none, some (.newarray .long, 2), none, some (.putfield 39, 3), none, none, some (.aload_n 0, 1), some (.bipush 17, 2), none, some (.newarray .long, 2), none, some (.putfield 42, 3), none, none, some (.aload_n 0, 1), some (.bipush 17, 2), none, some (.newarray .long, 2), none, some (.putfield 45, 3), none, none, some (.aload_n 0, 1), some (.bipush 17, 2), none, some (.newarray .long, 2), none, some (.putfield 48, 3), none, none, some (.aload_n 0, 1), some (.bipush 17, 2), none, some (.newarray .long, 2), none, some (.putfield 51, 3), none, none, some (.aload_n 0, 1), some (.sipush 128, 3), none, none, some (.newarray .int, 2), none, some (.putfield 54, 3), none, none, some (.aload_n 0, 1), some (.sipush 128, 3), none, none, some (.newarray .int, 2), none, some (.putfield 57, 3), none, none, some (.aload_n 0, 1), some (.sipush 128, 3), none, none, some (.newarray .int, 2), none, some (.putfield 60, 3), none, none, some (.aload_n 0, 1), some (.sipush 128, 3), none, none, some (.newarray .int, 2), none, some (.putfield 63, 3), none, none, some (.aload_n 0, 1), some (.sipush 128, 3), none, none, some (.newarray .boolean, 2), none, some (.putfield 66, 3), none, none, some (.aload_n 0, 1), some (.getfield 26, 3), none, none, some (.iconst 0, 1), some (.lconst 1, 1), some (.lastore, 1), some (.aload_n 0, 1), some (.getfield 30, 3), none, none, some (.iconst 0, 1), some (.lconst 1, 1), some (.lastore, 1), some (.return_, 1)]
def m_M_init : am_M := (⟨"SampledBanksModel", "<init>", "()V"⟩, prog_8_method_1_code, 1, none, 5, k_M_init)
set_option maxRecDepth 100000 in
theorem dk_M_init : am_dk am_Ft true m_M_init = true := by decide +kernel
def k_M_put : List (Option (Instr × Nat)) := [some (.iload_n 1, 1), some (.invokestatic 69, 3), none, none, some (.ifCond .eq 10, 3), none, none, some (.iload_n 2, 1), some (.invokestatic 73, 3), none, none, some (.ifCond .ne 5, 3), none, none, some (.iconst (-1), 1), some (.ireturn, 1), some (.aload_n 0, 1), some (.iload_n 1, 1), some (.iload_n 2, 1), some (.invokevirtual 76, 3), none, none, some (.istore 4, 2), none, some (.iload 4, 2), none, some (.ifCond .ge 17, 3), none, none, some (.aload_n 0, 1), some (.getfield 7, 3), none, none, some (.iload_n 1, 1), some (.iaload, 1), some (.bipush 64, 2), none, some (.if_icmp .ne 24, 3), none, none, some (.goto 18, 3), none, none, some (.aload_n 0, 1), some (.getfield 16, 3), none, none, some (.iload 4, 2), none, some (.iaload, 1), some (.iconst 2, 1), some (.idiv, 1), some (.sipush 500, 3), none, none, some (.if_icmp .ne 6, 3), none, none, some (.bipush (-3), 2), none, some (.ireturn, 1), some (.iload 4, 2), none, some (.ifCond .ge 12, 3), none, none, some (.aload_n 0, 1), some (.iload_n 1, 1), some (.iload_n 2, 1), some (.invokevirtual 80, 3), none, none, some (.goto 5, 3), none, none, some (.iload 4, 2), none, some (.istore 4, 2), none, some (.aload_n 0, 1), some (.getfield 16, 3), none, none, some (.iload 4, 2), none, some (.iconst 2, 1), some (.aload_n 0, 1), some (.getfield 16, 3), none, none, some (.iload 4, 2), none, some (.iaload, 1), some (.iconst 2, 1), some (.idiv, 1), some (.iconst 1, 1), some (.iadd, 1), some (.imul, 1), some (.iload_n 1, 1), some (.iconst 2, 1), some (.irem, 1), some (.iadd, 1), some (.iastore, 1), some (.aload_n 0, 1), some (.getfield 19, 3), none, none, some (.iload 4, 2), none, some (.iload_n 3, 1), some (.iastore, 1), some (.aload_n 0, 1), some (.getfield 22, 3), none, none, some (.iload 4, 2), none, some (.iconst 0, 1), some (.bastore, 1), some (.aload_n 0, 1), some (.getfield 16, 3), none, none, some (.iload 4, 2), none, some (.iaload, 1), some (.ireturn, 1)]
def m_M_put : am_M := (⟨"SampledBanksModel", "put", "(III)I"⟩, prog_8_method_6_code, 5, (some .int), 5, k_M_put)
set_option maxRecDepth 100000 in
theorem dk_M_put : am_dk am_Ft false m_M_put = true := by decide +kernel
def k_M_isBank : List (Option (Instr × Nat)) := [some (.iload_n 0, 1), some (.ifCond .lt 12, 3), none, none, some (.iload_n 0, 1), some (.iconst 4, 1), some (.if_icmp .ge 7, 3), none, none, some (.iconst 1, 1), some (.goto 4, 3), none, none, some (.iconst 0, 1), some (.ireturn, 1)]
def m_M_isBank : am_M := (⟨"SampledBanksModel", "isBank", "(I)Z"⟩, prog_8_method_2_code, 1, (some .boolean), 5, k_M_isBank)
set_option maxRecDepth 100000 in
theorem dk_M_isBank : am_dk am_Ft false m_M_isBank = true := by decide +kernel
def k_M_isNumber : List (Option (Instr × Nat)) := [some (.iload_n 0, 1), some (.ifCond .lt 14, 3), none, none, some (.iload_n 0, 1), some (.sipush 10000, 3), none, none, some (.if_icmp .ge 7, 3), none, none, some (.iconst 1, 1), some (.goto 4, 3), none, none, some (.iconst 0, 1), some (.ireturn, 1)]
def m_M_isNumber : am_M := (⟨"SampledBanksModel", "isNumber", "(I)Z"⟩, prog_8_method_3_code, 1, (some .boolean), 5, k_M_isNumber)
set_option maxRecDepth 100000 in
theorem dk_M_isNumber : am_dk am_Ft false m_M_isNumber = true := by decide +kernel
def k_M_find : List (Option (Instr × Nat)) := [some (.iconst (-1), 1), some (.istore_n 3, 1), some (.bipush 64, 2), none, some (.iload_n 1, 1), some (.imul, 1), some (.istore 4, 2), none, some (.iload 4, 2), none, some (.bipush 64, 2), none, some (.iload_n 1, 1), some (.imul, 1), some (.aload_n 0, 1), some (.getfield 7, 3), none, none, some (.iload_n 1, 1), some (.iaload, 1), some (.iadd, 1), some (.if_icmp .ge 27, 3), none, none, some (.aload_n 0, 1), some (.getfield 13, 3), none, none, some (.iload 4, 2), none, some (.iaload, 1), some (.iload_n 2, 1), some (.if_icmp .ne 8, 3), none, none, some (.iload 4, 2), none, some (.goto 4, 3), none, none, some (.iload_n 3, 1), some (.istore_n 3, 1), some (.iinc 4 1, 3), none, none, some (.goto (-37), 3), none, none, some (.iload_n 3, 1), some (.ireturn, 1)]
def m_M_find : am_M := (⟨"SampledBanksModel", "find", "(II)I"⟩, prog_8_method_4_code, 5, (some .int), 5, k_M_find)
set_option maxRecDepth 100000 in
theorem dk_M_find : am_dk am_Ft false m_M_find = true := by decide +kernel
def k_M_insert : List (Option (Instr × Nat)) := [some (.bipush 64, 2), none, some (.iload_n 1, 1), some (.imul, 1), some (.aload_n 0, 1), some (.getfield 7, 3), none, none, some (.iload_n 1, 1), some (.iaload, 1), some (.iadd, 1), some (.istore_n 3, 1), some (.iload_n 3, 1), some (.bipush 64, 2), none, some (.iload_n 1, 1), some (.imul, 1), some (.if_icmp .le 77, 3), none, none, some (.aload_n 0, 1), some (.getfield 13, 3), none, none, some (.iload_n 3, 1), some (.iconst 1, 1), some (.isub, 1), some (.iaload, 1), some (.iload_n 2, 1), some (.if_icmp .le 65, 3), none, none, some (.aload_n 0, 1), some (.getfield 13, 3), none, none, some (.iload_n 3, 1), some (.aload_n 0, 1), some (.getfield 13, 3), none, none, some (.iload_n 3, 1), some (.iconst 1, 1), some (.isub, 1), some (.iaload, 1), some (.iastore, 1), some (.aload_n 0, 1), some (.getfield 16, 3), none, none, some (.iload_n 3, 1), some (.aload_n 0, 1), some (.getfield 16, 3), none, none, some (.iload_n 3, 1), some (.iconst 1, 1), some (.isub, 1), some (.iaload, 1), some (.iastore, 1), some (.aload_n 0, 1), some (.getfield 19, 3), none, none, some (.iload_n 3, 1), some (.aload_n 0, 1), some (.getfield 19, 3), none, none, some (.iload_n 3, 1), some (.iconst 1, 1), some (.isub, 1), some (.iaload, 1), some (.iastore, 1), some (.aload_n 0, 1), some (.getfield 22, 3), none, none, some (.iload_n 3, 1), some (.aload_n 0, 1), some (.getfield 22, 3), none, none, some (.iload_n 3, 1), some (.iconst 1, 1), some (.isub, 1), some (.baload, 1), some (.bastore, 1), some (.iinc 3 (-1), 3), none, none, some (.goto (-79), 3), none, none, some (.aload_n 0, 1), some (.getfield 13, 3), none, none, some (.iload_n 3, 1), some (.iload_n 2, 1), some (.iastore, 1), some (.aload_n 0, 1), some (.getfield 16, 3), none, none, some (.iload_n 3, 1), some (.iconst 0, 1), some (.iastore, 1), some (.aload_n 0, 1), some (.getfield 7, 3), none, none, some (.iload_n 1, 1), some (.dup2, 1), some (.iaload, 1), some (.iconst 1, 1), some (.iadd, 1), some (.iastore, 1), some (.iload_n 3, 1), some (.ireturn, 1)]
def m_M_insert : am_M := (⟨"SampledBanksModel", "insert", "(II)I"⟩, prog_8_method_5_code, 4, (some .int), 5, k_M_insert)
set_option maxRecDepth 100000 in
theorem dk_M_insert : am_dk am_Ft false m_M_insert = true := by decide +kernel
def k_M_drop : List (Option (Instr × Nat)) := [some (.iload_n 1, 1), some (.invokestatic 69, 3), none, none, some (.ifCond .eq 10, 3), none, none, some (.iload_n 2, 1), some (.invokestatic 73, 3), none, none, some (.ifCond .ne 5, 3), none, none, some (.iconst (-1), 1), some (.ireturn, 1), some (.aload_n 0, 1), some (.iload_n 1, 1), some (.iload_n 2, 1), some (.invokevirtual 76, 3), none, none, some (.istore_n 3, 1), some (.iload_n 3, 1), some (.ifCond .lt 12, 3), none, none, some (.aload_n 0, 1), some (.getfield 22, 3), none, none, some (.iload_n 3, 1), some (.baload, 1), some (.ifCond .eq 6, 3), none, none, some (.bipush (-2), 2), none, some (.ireturn, 1), some (.aload_n 0, 1), some (.getfield 16, 3), none, none, some (.iload_n 3, 1), some (.iaload, 1), some (.iconst 2, 1), some (.idiv, 1), some (.sipush 500, 3), none, none, some (.if_icmp .ne 6, 3), none, none, some (.bipush (-3), 2), none, some (.ireturn, 1), some (.aload_n 0, 1), some (.getfield 16, 3), none, none, some (.iload_n 3, 1), some (.iconst 2, 1), some (.aload_n 0, 1), some (.getfield 16, 3), none, none, some (.iload_n 3, 1), some (.iaload, 1), some (.iconst 2, 1), some (.idiv, 1), some (.iconst 1, 1), some (.iadd, 1), some (.imul, 1), some (.iload_n 1, 1), some (.iconst 2, 1), some (.irem, 1), some (.iadd, 1), some (.iastore, 1), some (.aload_n 0, 1), some (.getfield 22, 3), none, none, some (.iload_n 3, 1), some (.iconst 1, 1), some (.bastore, 1), some (.aload_n 0, 1), some (.getfield 16, 3), none, none, some (.iload_n 3, 1), some (.iaload, 1), some (.ireturn, 1)]
def m_M_drop : am_M := (⟨"SampledBanksModel", "drop", "(II)I"⟩, prog_8_method_7_code, 4, (some .int), 5, k_M_drop)
set_option maxRecDepth 100000 in
theorem dk_M_drop : am_dk am_Ft false m_M_drop = true := by decide +kernel
def k_M_version : List (Option (Instr × Nat)) := [some (.iload_n 1, 1), some (.invokestatic 69, 3), none, none, some (.ifCond .eq 10, 3), none, none, some (.iload_n 2, 1), some (.invokestatic 73, 3), none, none, some (.ifCond .ne 5, 3), none, none, some (.iconst (-1), 1), some (.ireturn, 1), some (.aload_n 0, 1), some (.iload_n 1, 1), some (.iload_n 2, 1), some (.invokevirtual 76, 3), none, none, some (.istore_n 3, 1), some (.iload_n 3, 1), some (.ifCond .ge 7, 3), none, none, some (.iconst 0, 1), some (.goto 28, 3), none, none, some (.aload_n 0, 1), some (.getfield 22, 3), none, none, some (.iload_n 3, 1), some (.baload, 1), some (.ifCond .eq 13, 3), none, none, some (.aload_n 0, 1), some (.getfield 16, 3), none, none, some (.iload_n 3, 1), some (.iaload, 1), some (.ineg, 1), some (.goto 9, 3), none, none, some (.aload_n 0, 1), some (.getfield 16, 3), none, none, some (.iload_n 3, 1), some (.iaload, 1), some (.ireturn, 1)]
def m_M_version : am_M := (⟨"SampledBanksModel", "version", "(II)I"⟩, prog_8_method_8_code, 4, (some .int), 5, k_M_version)
set_option maxRecDepth 100000 in
theorem dk_M_version : am_dk am_Ft false m_M_version = true := by decide +kernel
def k_M_grams : List (Option (Instr × Nat)) := [some (.iload_n 1, 1), some (.invokestatic 69, 3), none, none, some (.ifCond .eq 19, 3), none, none, some (.iload_n 2, 1), some (.invokestatic 73, 3), none, none, some (.ifCond .eq 12, 3), none, none, some (.aload_n 0, 1), some (.iload_n 1, 1), some (.iload_n 2, 1), some (.invokevirtual 76, 3), none, none, some (.goto 4, 3), none, none, some (.iconst (-1), 1), some (.istore_n 3, 1), some (.iload_n 3, 1), some (.ifCond .ge 7, 3), none, none, some (.iconst 0, 1), some (.goto 9, 3), none, none, some (.aload_n 0, 1), some (.getfield 19, 3), none, none, some (.iload_n 3, 1), some (.iaload, 1), some (.ireturn, 1)]
def m_M_grams : am_M := (⟨"SampledBanksModel", "grams", "(II)I"⟩, prog_8_method_9_code, 4, (some .int), 5, k_M_grams)
set_option maxRecDepth 100000 in
theorem dk_M_grams : am_dk am_Ft false m_M_grams = true := by decide +kernel
def k_M_size : List (Option (Instr × Nat)) := [some (.iload_n 1, 1), some (.invokestatic 69, 3), none, none, some (.ifCond .eq 12, 3), none, none, some (.aload_n 0, 1), some (.getfield 7, 3), none, none, some (.iload_n 1, 1), some (.iaload, 1), some (.goto 4, 3), none, none, some (.iconst (-1), 1), some (.ireturn, 1)]
def m_M_size : am_M := (⟨"SampledBanksModel", "size", "(I)I"⟩, prog_8_method_10_code, 2, (some .int), 5, k_M_size)
set_option maxRecDepth 100000 in
theorem dk_M_size : am_dk am_Ft false m_M_size = true := by decide +kernel
def k_M_word : List (Option (Instr × Nat)) := [some (.iload_n 1, 1), some (.invokestatic 69, 3), none, none, some (.ifCond .eq 30, 3), none, none, some (.iload_n 2, 1), some (.ifCond .lt 26, 3), none, none, some (.iload_n 2, 1), some (.aload_n 0, 1), some (.getfield 7, 3), none, none, some (.iload_n 1, 1), some (.iaload, 1), some (.if_icmp .ge 16, 3), none, none, some (.aload_n 0, 1), some (.bipush 64, 2), none, some (.iload_n 1, 1), some (.imul, 1), some (.iload_n 2, 1), some (.iadd, 1), some (.invokevirtual 83, 3), none, none, some (.goto 4, 3), none, none, some (.iconst (-1), 1), some (.ireturn, 1)]
def m_M_word : am_M := (⟨"SampledBanksModel", "word", "(II)I"⟩, prog_8_method_12_code, 3, (some .int), 5, k_M_word)
set_option maxRecDepth 100000 in
theorem dk_M_word : am_dk am_Ft false m_M_word = true := by decide +kernel
def k_M_wordAt : List (Option (Instr × Nat)) := [some (.sipush 1024, 3), none, none, some (.aload_n 0, 1), some (.getfield 13, 3), none, none, some (.iload_n 1, 1), some (.iaload, 1), some (.imul, 1), some (.aload_n 0, 1), some (.getfield 16, 3), none, none, some (.iload_n 1, 1), some (.iaload, 1), some (.iadd, 1), some (.ireturn, 1)]
def m_M_wordAt : am_M := (⟨"SampledBanksModel", "wordAt", "(I)I"⟩, prog_8_method_11_code, 2, (some .int), 5, k_M_wordAt)
set_option maxRecDepth 100000 in
theorem dk_M_wordAt : am_dk am_Ft false m_M_wordAt = true := by decide +kernel
end
section
def k_M_sample : List (Option (Instr × Nat)) := [some (.iload_n 1, 1), some (.invokestatic 69, 3), none, none, some (.ifCond .eq 23, 3), none, none, some (.iload_n 2, 1), some (.ifCond .lt 19, 3), none, none, some (.iload_n 2, 1), some (.bipush 17, 2), none, some (.if_icmp .gt 13, 3), none, none, some (.aload_n 0, 1), some (.iload_n 1, 1), some (.iload_n 2, 1), some (.invokevirtual 99, 3), none, none, some (.l2i, 1), some (.goto 4, 3), none, none, some (.iconst (-1), 1), some (.ireturn, 1)]
def m_M_sample : am_M := (⟨"SampledBanksModel", "sample", "(II)I"⟩, prog_8_method_18_code, 3, (some .int), 5, k_M_sample)
set_option maxRecDepth 100000 in
theorem dk_M_sample : am_dk am_Ft false m_M_sample = true := by decide +kernel
def k_M_sampleOf : List (Option (Instr × Nat)) := [some (.lconst 1, 1), some (.lstore_n 3, 1), some (.iconst 0, 1), some (.istore 5, 2), none, some (.iload 5, 2), none, some (.aload_n 0, 1), some (.getfield 7, 3), none, none, some (.iload_n 1, 1), some (.iaload, 1), some (.if_icmp .ge 31, 3), none, none, some (.lload_n 3, 1), some (.iload_n 2, 1), some (.invokestatic 95, 3), none, none, some (.aload_n 0, 1), some (.bipush 64, 2), none, some (.iload_n 1, 1), some (.imul, 1), some (.iload 5, 2), none, some (.iadd, 1), some (.invokevirtual 83, 3), none, none, some (.i2l, 1), some (.lsub, 1), some (.invokestatic 89, 3), none, none, some (.lstore_n 3, 1), some (.iinc 5 1, 3), none, none, some (.goto (-36), 3), none, none, some (.lload_n 3, 1), some (.lreturn, 1)]
def m_M_sampleOf : am_M := (⟨"SampledBanksModel", "sampleOf", "(II)J"⟩, prog_8_method_17_code, 6, (some .long), 5, k_M_sampleOf)
set_option maxRecDepth 100000 in
theorem dk_M_sampleOf : am_dk am_Ft false m_M_sampleOf = true := by decide +kernel
def k_M_point : List (Option (Instr × Nat)) := [some (.ldc2_w 93, 3), none, none, some (.iload_n 0, 1), some (.i2l, 1), some (.ladd, 1), some (.lreturn, 1)]
def m_M_point : am_M := (⟨"SampledBanksModel", "point", "(I)J"⟩, prog_8_method_16_code, 1, (some .long), 5, k_M_point)
set_option maxRecDepth 100000 in
theorem dk_M_point : am_dk am_Ft false m_M_point = true := by decide +kernel
def k_M_mul : List (Option (Instr × Nat)) := [some (.lload_n 0, 1), some (.lload_n 2, 1), some (.lmul, 1), some (.ldc2_w 87, 3), none, none, some (.lrem, 1), some (.lreturn, 1)]
def m_M_mul : am_M := (⟨"SampledBanksModel", "mul", "(JJ)J"⟩, prog_8_method_13_code, 4, (some .long), 5, k_M_mul)
set_option maxRecDepth 100000 in
theorem dk_M_mul : am_dk am_Ft false m_M_mul = true := by decide +kernel
def k_M_exchange : List (Option (Instr × Nat)) := [some (.iload_n 1, 1), some (.iload_n 2, 1), some (.invokestatic 208, 3), none, none, some (.ifCond .eq 20, 3), none, none, some (.iload_n 3, 1), some (.invokestatic 211, 3), none, none, some (.ifCond .eq 13, 3), none, none, some (.aload_n 0, 1), some (.iload_n 1, 1), some (.iload_n 2, 1), some (.iload_n 3, 1), some (.invokevirtual 214, 3), none, none, some (.goto 4, 3), none, none, some (.iconst (-1), 1), some (.ireturn, 1)]
def m_M_exchange : am_M := (⟨"SampledBanksModel", "exchange", "(III)I"⟩, prog_8_method_42_code, 4, (some .int), 5, k_M_exchange)
set_option maxRecDepth 100000 in
theorem dk_M_exchange : am_dk am_Ft false m_M_exchange = true := by decide +kernel
def k_M_areTwo : List (Option (Instr × Nat)) := [some (.iload_n 0, 1), some (.invokestatic 69, 3), none, none, some (.ifCond .eq 19, 3), none, none, some (.iload_n 1, 1), some (.invokestatic 69, 3), none, none, some (.ifCond .eq 12, 3), none, none, some (.iload_n 0, 1), some (.iload_n 1, 1), some (.if_icmp .eq 7, 3), none, none, some (.iconst 1, 1), some (.goto 4, 3), none, none, some (.iconst 0, 1), some (.ireturn, 1)]
def m_M_areTwo : am_M := (⟨"SampledBanksModel", "areTwo", "(II)Z"⟩, prog_8_method_40_code, 2, (some .boolean), 5, k_M_areTwo)
set_option maxRecDepth 100000 in
theorem dk_M_areTwo : am_dk am_Ft false m_M_areTwo = true := by decide +kernel
def k_M_isMany : List (Option (Instr × Nat)) := [some (.iload_n 0, 1), some (.iconst 1, 1), some (.if_icmp .lt 13, 3), none, none, some (.iload_n 0, 1), some (.bipush 16, 2), none, some (.if_icmp .gt 7, 3), none, none, some (.iconst 1, 1), some (.goto 4, 3), none, none, some (.iconst 0, 1), some (.ireturn, 1)]
def m_M_isMany : am_M := (⟨"SampledBanksModel", "isMany", "(I)Z"⟩, prog_8_method_41_code, 1, (some .boolean), 5, k_M_isMany)
set_option maxRecDepth 100000 in
theorem dk_M_isMany : am_dk am_Ft false m_M_isMany = true := by decide +kernel
def k_M_exchanged : List (Option (Instr × Nat)) := [some (.aload_n 0, 1), some (.dup, 1), some (.getfield 168, 3), none, none, some (.iload_n 3, 1), some (.iconst 3, 1), some (.iadd, 1), some (.i2l, 1), some (.ladd, 1), some (.putfield 168, 3), none, none, some (.aload_n 0, 1), some (.getfield 7, 3), none, none, some (.iload_n 1, 1), some (.iaload, 1), some (.aload_n 0, 1), some (.getfield 7, 3), none, none, some (.iload_n 2, 1), some (.iaload, 1), some (.isub, 1), some (.istore 4, 2), none, some (.iload 4, 2), none, some (.iload_n 3, 1), some (.if_icmp .gt 10, 3), none, none, some (.iload 4, 2), none, some (.iload_n 3, 1), some (.ineg, 1), some (.if_icmp .ge 6, 3), none, none, some (.bipush (-4), 2), none, some (.ireturn, 1), some (.iload_n 3, 1), some (.iload 4, 2), none, some (.isub, 1), some (.iconst 2, 1), some (.irem, 1), some (.ifCond .ne 7, 3), none, none, some (.iload_n 3, 1), some (.goto 6, 3), none, none, some (.iload_n 3, 1), some (.iconst 1, 1), some (.isub, 1), some (.istore 5, 2), none, some (.aload_n 0, 1), some (.iload 5, 2), none, some (.iload 4, 2), none, some (.iadd, 1), some (.iconst 2, 1), some (.idiv, 1), some (.putfield 110, 3), none, none, some (.aload_n 0, 1), some (.iload 5, 2), none, some (.iload 4, 2), none, some (.isub, 1), some (.iconst 2, 1), some (.idiv, 1), some (.putfield 113, 3), none, none, some (.aload_n 0, 1), some (.iload_n 1, 1), some (.iload_n 2, 1), some (.iload 5, 2), none, some (.invokevirtual 191, 3), none, none, some (.ifCond .ne 6, 3), none, none, some (.bipush (-4), 2), none, some (.ireturn, 1), some (.aload_n 0, 1), some (.invokevirtual 195, 3), none, none, some (.aload_n 0, 1), some (.dup, 1), some (.getfield 168, 3), none, none, some (.aload_n 0, 1), some (.getfield 155, 3), none, none, some (.aload_n 0, 1), some (.getfield 158, 3), none, none, some (.iadd, 1), some (.i2l, 1), some (.ladd, 1), some (.putfield 168, 3), none, none, some (.aload_n 0, 1), some (.iload_n 1, 1), some (.iload_n 2, 1), some (.iload_n 3, 1), some (.invokevirtual 198, 3), none, none, some (.ifCond .ne 6, 3), none, none, some (.bipush (-4), 2), none, some (.ireturn, 1), some (.aload_n 0, 1), some (.iconst 0, 1), some (.putfield 161, 3), none, none, some (.bipush 64, 2), none, some (.iload_n 1, 1), some (.imul, 1), some (.istore 6, 2), none, some (.iload 6, 2), none, some (.bipush 64, 2), none, some (.iload_n 1, 1), some (.imul, 1), some (.aload_n 0, 1), some (.getfield 7, 3), none, none, some (.iload_n 1, 1), some (.iaload, 1), some (.iadd, 1), some (.if_icmp .ge 33, 3), none, none, some (.aload_n 0, 1), some (.aload_n 0, 1), some (.iload 6, 2), none, some (.invokevirtual 83, 3), none, none, some (.i2l, 1), some (.invokevirtual 185, 3), none, none, some (.lconst 0, 1), some (.lcmp, 1), some (.ifCond .ne 11, 3), none, none, some (.aload_n 0, 1), some (.iload_n 2, 1), some (.iload 6, 2), none, some (.invokevirtual 201, 3), none, none, some (.pop, 1), some (.iinc 6 1, 3), none, none, some (.goto (-43), 3), none, none, some (.bipush 64, 2), none, some (.iload_n 2, 1), some (.imul, 1), some (.istore 6, 2), none, some (.iload 6, 2), none, some (.bipush 64, 2), none, some (.iload_n 2, 1), some (.imul, 1), some (.aload_n 0, 1), some (.getfield 7, 3), none, none, some (.iload_n 2, 1), some (.iaload, 1), some (.iadd, 1), some (.if_icmp .ge 33, 3), none, none, some (.aload_n 0, 1), some (.aload_n 0, 1), some (.iload 6, 2), none, some (.invokevirtual 83, 3), none, none, some (.i2l, 1), some (.invokevirtual 188, 3), none, none, some (.lconst 0, 1), some (.lcmp, 1), some (.ifCond .ne 11, 3), none, none, some (.aload_n 0, 1), some (.iload_n 1, 1), some (.iload 6, 2), none, some (.invokevirtual 201, 3), none, none, some (.pop, 1), some (.iinc 6 1, 3), none, none, some (.goto (-43), 3), none, none, some (.aload_n 0, 1), some (.invokevirtual 205, 3), none, none, some (.ireturn, 1)]
def m_M_exchanged : am_M := (⟨"SampledBanksModel", "exchanged", "(III)I"⟩, prog_8_method_39_code, 7, (some .int), 5, k_M_exchanged)
set_option maxRecDepth 100000 in
theorem dk_M_exchanged : am_dk am_Ft false m_M_exchanged = true := by decide +kernel
def k_M_solved : List (Option (Instr × Nat)) := [some (.aload_n 0, 1), some (.invokevirtual 174, 3), none, none, some (.iconst 0, 1), some (.istore 4, 2), none, some (.iload 4, 2), none, some (.iload_n 3, 1), some (.if_icmp .ge 32, 3), none, none, some (.aload_n 0, 1), some (.iload 4, 2), none, some (.invokestatic 95, 3), none, none, some (.aload_n 0, 1), some (.iload_n 1, 1), some (.iload 4, 2), none, some (.invokevirtual 99, 3), none, none, some (.aload_n 0, 1), some (.iload_n 2, 1), some (.iload 4, 2), none, some (.invokevirtual 99, 3), none, none, some (.invokevirtual 177, 3), none, none, some (.iinc 4 1, 3), none, none, some (.goto (-32), 3), none, none, some (.aload_n 0, 1), some (.invokevirtual 181, 3), none, none, some (.ireturn, 1)]
def m_M_solved : am_M := (⟨"SampledBanksModel", "solved", "(III)Z"⟩, prog_8_method_37_code, 5, (some .boolean), 5, k_M_solved)
set_option maxRecDepth 100000 in
theorem dk_M_solved : am_dk am_Ft false m_M_solved = true := by decide +kernel
def k_M_allPairs : List (Option (Instr × Nat)) := [some (.aload_n 0, 1), some (.aload_n 0, 1), some (.getfield 110, 3), none, none, some (.aload_n 0, 1), some (.getfield 113, 3), none, none, some (.iadd, 1), some (.iconst 2, 1), some (.iadd, 1), some (.putfield 106, 3), none, none, some (.iconst 0, 1), some (.istore_n 1, 1), some (.iload_n 1, 1), some (.bipush 34, 2), none, some (.aload_n 0, 1), some (.getfield 106, 3), none, none, some (.imul, 1), some (.if_icmp .ge 16, 3), none, none, some (.aload_n 0, 1), some (.getfield 33, 3), none, none, some (.iload_n 1, 1), some (.lconst 0, 1), some (.lastore, 1), some (.iinc 1 1, 3), none, none, some (.goto (-21), 3), none, none, some (.iconst 0, 1), some (.istore_n 1, 1), some (.iload_n 1, 1), some (.aload_n 0, 1), some (.getfield 110, 3), none, none, some (.if_icmp .gt 23, 3), none, none, some (.aload_n 0, 1), some (.getfield 33, 3), none, none, some (.bipush 34, 2), none, some (.iload_n 1, 1), some (.imul, 1), some (.iconst 0, 1), some (.iadd, 1), some (.iload_n 1, 1), some (.iadd, 1), some (.lconst 1, 1), some (.lastore, 1), some (.iinc 1 1, 3), none, none, some (.goto (-25), 3), none, none, some (.iconst 0, 1), some (.istore_n 1, 1), some (.iload_n 1, 1), some (.aload_n 0, 1), some (.getfield 113, 3), none, none, some (.if_icmp .gt 31, 3), none, none, some (.aload_n 0, 1), some (.getfield 33, 3), none, none, some (.bipush 34, 2), none, some (.aload_n 0, 1), some (.getfield 110, 3), none, none, some (.iconst 1, 1), some (.iadd, 1), some (.iload_n 1, 1), some (.iadd, 1), some (.imul, 1), some (.bipush 17, 2), none, some (.iadd, 1), some (.iload_n 1, 1), some (.iadd, 1), some (.lconst 1, 1), some (.lastore, 1), some (.iinc 1 1, 3), none, none, some (.goto (-33), 3), none, none, some (.return_, 1)]
def m_M_allPairs : am_M := (⟨"SampledBanksModel", "allPairs", "()V"⟩, prog_8_method_23_code, 2, none, 5, k_M_allPairs)
set_option maxRecDepth 100000 in
theorem dk_M_allPairs : am_dk am_Ft false m_M_allPairs = true := by decide +kernel
def k_M_sift : List (Option (Instr × Nat)) := [some (.iconst (-1), 1), some (.istore 7, 2), none, some (.iconst 0, 1), some (.istore 8, 2), none, some (.iload 8, 2), none, some (.aload_n 0, 1), some (.getfield 106, 3), none, none, some (.if_icmp .ge 82, 3), none, none, some (.aload_n 0, 1), some (.getfield 36, 3), none, none, some (.iload 8, 2), none, some (.aload_n 0, 1), some (.bipush 34, 2), none, some (.iload 8, 2), none, some (.imul, 1), some (.iconst 0, 1), some (.iadd, 1), some (.aload_n 0, 1), some (.getfield 110, 3), none, none, some (.lload_n 1, 1), some (.invokevirtual 116, 3), none, none, some (.lload 5, 2), none, some (.invokestatic 89, 3), none, none, some (.aload_n 0, 1), some (.bipush 34, 2), none, some (.iload 8, 2), none, some (.imul, 1), some (.bipush 17, 2), none, some (.iadd, 1), some (.aload_n 0, 1), some (.getfield 113, 3), none, none, some (.lload_n 1, 1), some (.invokevirtual 116, 3), none, none, some (.lload_n 3, 1), some (.invokestatic 89, 3), none, none, some (.invokestatic 103, 3), none, none, some (.lastore, 1), some (.aload_n 0, 1), some (.getfield 36, 3), none, none, some (.iload 8, 2), none, some (.laload, 1), some (.lconst 0, 1), some (.lcmp, 1), some (.ifCond .eq 8, 3), none, none, some (.iload 8, 2), none, some (.goto 5, 3), none, none, some (.iload 7, 2), none, some (.istore 7, 2), none, some (.iinc 8 1, 3), none, none, some (.goto (-85), 3), none, none, some (.iload 7, 2), none, some (.ifCond .ge 4, 3), none, none, some (.return_, 1), some (.aload_n 0, 1), some (.getfield 36, 3), none, none, some (.iload 7, 2), none, some (.laload, 1), some (.invokestatic 120, 3), none, none, some (.lstore 8, 2), none, some (.iconst 0, 1), some (.istore 10, 2), none, some (.iload 10, 2), none, some (.aload_n 0, 1), some (.getfield 106, 3), none, none, some (.if_icmp .ge 36, 3), none, none, some (.iload 10, 2), none, some (.iload 7, 2), none, some (.if_icmp .eq 23, 3), none, none, some (.aload_n 0, 1), some (.iload 10, 2), none, some (.iload 7, 2), none, some (.aload_n 0, 1), some (.getfield 36, 3), none, none, some (.iload 10, 2), none, some (.laload, 1), some (.lload 8, 2), none, some (.invokestatic 89, 3), none, none, some (.invokevirtual 124, 3), none, none, some (.iinc 10 1, 3), none, none, some (.goto (-39), 3), none, none, some (.aload_n 0, 1), some (.iload 7, 2), none, some (.invokevirtual 128, 3), none, none, some (.return_, 1)]
def m_M_sift : am_M := (⟨"SampledBanksModel", "sift", "(JJJ)V"⟩, prog_8_method_24_code, 11, none, 5, k_M_sift)
set_option maxRecDepth 100000 in
theorem dk_M_sift : am_dk am_Ft false m_M_sift = true := by decide +kernel
def k_M_valueOf : List (Option (Instr × Nat)) := [some (.lconst 0, 1), some (.lstore 5, 2), none, some (.iload_n 2, 1), some (.istore 7, 2), none, some (.iload 7, 2), none, some (.ifCond .lt 31, 3), none, none, some (.lload 5, 2), none, some (.lload_n 3, 1), some (.invokestatic 89, 3), none, none, some (.aload_n 0, 1), some (.getfield 33, 3), none, none, some (.iload_n 1, 1), some (.iload 7, 2), none, some (.iadd, 1), some (.laload, 1), some (.ladd, 1), some (.ldc2_w 87, 3), none, none, some (.lrem, 1), some (.lstore 5, 2), none, some (.iinc 7 (-1), 3), none, none, some (.goto (-30), 3), none, none, some (.lload 5, 2), none, some (.lreturn, 1)]
def m_M_valueOf : am_M := (⟨"SampledBanksModel", "valueOf", "(IIJ)J"⟩, prog_8_method_19_code, 8, (some .long), 5, k_M_valueOf)
set_option maxRecDepth 100000 in
theorem dk_M_valueOf : am_dk am_Ft false m_M_valueOf = true := by decide +kernel
def k_M_minus : List (Option (Instr × Nat)) := [some (.lload_n 0, 1), some (.lload_n 2, 1), some (.lsub, 1), some (.ldc2_w 87, 3), none, none, some (.ladd, 1), some (.ldc2_w 87, 3), none, none, some (.lrem, 1), some (.lreturn, 1)]
def m_M_minus : am_M := (⟨"SampledBanksModel", "minus", "(JJ)J"⟩, prog_8_method_14_code, 4, (some .long), 5, k_M_minus)
set_option maxRecDepth 100000 in
theorem dk_M_minus : am_dk am_Ft false m_M_minus = true := by decide +kernel
def k_M_inverse : List (Option (Instr × Nat)) := [some (.lconst 1, 1), some (.lstore_n 2, 1), some (.lload_n 0, 1), some (.lstore 4, 2), none, some (.iconst 0, 1), some (.istore 6, 2), none, some (.iload 6, 2), none, some (.bipush 31, 2), none, some (.if_icmp .ge 35, 3), none, none, some (.iload 6, 2), none, some (.iconst 1, 1), some (.if_icmp .eq 12, 3), none, none, some (.lload_n 2, 1), some (.lload 4, 2), none, some (.invokestatic 89, 3), none, none, some (.goto 4, 3), none, none, some (.lload_n 2, 1), some (.lstore_n 2, 1), some (.lload 4, 2), none, some (.lload 4, 2), none, some (.invokestatic 89, 3), none, none, some (.lstore 4, 2), none, some (.iinc 6 1, 3), none, none, some (.goto (-36), 3), none, none, some (.lload_n 2, 1), some (.lreturn, 1)]
def m_M_inverse : am_M := (⟨"SampledBanksModel", "inverse", "(J)J"⟩, prog_8_method_15_code, 7, (some .long), 5, k_M_inverse)
set_option maxRecDepth 100000 in
theorem dk_M_inverse : am_dk am_Ft false m_M_inverse = true := by decide +kernel
def k_M_take : List (Option (Instr × Nat)) := [some (.iconst 0, 1), some (.istore 5, 2), none, some (.iload 5, 2), none, some (.bipush 34, 2), none, some (.if_icmp .ge 52, 3), none, none, some (.aload_n 0, 1), some (.getfield 33, 3), none, none, some (.bipush 34, 2), none, some (.iload_n 1, 1), some (.imul, 1), some (.iload 5, 2), none, some (.iadd, 1), some (.aload_n 0, 1), some (.getfield 33, 3), none, none, some (.bipush 34, 2), none, some (.iload_n 1, 1), some (.imul, 1), some (.iload 5, 2), none, some (.iadd, 1), some (.laload, 1), some (.lload_n 3, 1), some (.aload_n 0, 1), some (.getfield 33, 3), none, none, some (.bipush 34, 2), none, some (.iload_n 2, 1), some (.imul, 1), some (.iload 5, 2), none, some (.iadd, 1), some (.laload, 1), some (.invokestatic 89, 3), none, none, some (.invokestatic 103, 3), none, none, some (.lastore, 1), some (.iinc 5 1, 3), none, none, some (.goto (-53), 3), none, none, some (.return_, 1)]
def m_M_take : am_M := (⟨"SampledBanksModel", "take", "(IIJ)V"⟩, prog_8_method_21_code, 6, none, 5, k_M_take)
set_option maxRecDepth 100000 in
theorem dk_M_take : am_dk am_Ft false m_M_take = true := by decide +kernel
def k_M_removePair : List (Option (Instr × Nat)) := [some (.aload_n 0, 1), some (.dup, 1), some (.getfield 106, 3), none, none, some (.iconst 1, 1), some (.isub, 1), some (.putfield 106, 3), none, none, some (.iconst 0, 1), some (.istore_n 2, 1), some (.iload_n 2, 1), some (.bipush 34, 2), none, some (.if_icmp .ge 34, 3), none, none, some (.aload_n 0, 1), some (.getfield 33, 3), none, none, some (.bipush 34, 2), none, some (.iload_n 1, 1), some (.imul, 1), some (.iload_n 2, 1), some (.iadd, 1), some (.aload_n 0, 1), some (.getfield 33, 3), none, none, some (.bipush 34, 2), none, some (.aload_n 0, 1), some (.getfield 106, 3), none, none, some (.imul, 1), some (.iload_n 2, 1), some (.iadd, 1), some (.laload, 1), some (.lastore, 1), some (.iinc 2 1, 3), none, none, some (.goto (-34), 3), none, none, some (.return_, 1)]
def m_M_removePair : am_M := (⟨"SampledBanksModel", "removePair", "(I)V"⟩, prog_8_method_22_code, 3, none, 5, k_M_removePair)
set_option maxRecDepth 100000 in
theorem dk_M_removePair : am_dk am_Ft false m_M_removePair = true := by decide +kernel
def k_M_choose : List (Option (Instr × Nat)) := [some (.aload_n 0, 1), some (.iconst 0, 1), some (.aload_n 0, 1), some (.getfield 110, 3), none, none, some (.iadd, 1), some (.invokevirtual 136, 3), none, none, some (.istore_n 1, 1), some (.iload_n 1, 1), some (.ifCond .ge 5, 3), none, none, some (.iconst 0, 1), some (.ireturn, 1), some (.aload_n 0, 1), some (.bipush 17, 2), none, some (.aload_n 0, 1), some (.getfield 113, 3), none, none, some (.iadd, 1), some (.invokevirtual 136, 3), none, none, some (.istore_n 2, 1), some (.lconst 1, 1), some (.aload_n 0, 1), some (.getfield 33, 3), none, none, some (.bipush 34, 2), none, some (.iload_n 1, 1), some (.imul, 1), some (.bipush 17, 2), none, some (.iadd, 1), some (.aload_n 0, 1), some (.getfield 113, 3), none, none, some (.iadd, 1), some (.laload, 1), some (.invokestatic 103, 3), none, none, some (.lstore_n 3, 1), some (.iload_n 2, 1), some (.ifCond .ge 11, 3), none, none, some (.lload_n 3, 1), some (.lconst 0, 1), some (.lcmp, 1), some (.ifCond .eq 5, 3), none, none, some (.iconst 0, 1), some (.ireturn, 1), some (.iload_n 2, 1), some (.ifCond .lt 14, 3), none, none, some (.aload_n 0, 1), some (.iload_n 1, 1), some (.iload_n 2, 1), some (.lconst 0, 1), some (.lload_n 3, 1), some (.invokestatic 103, 3), none, none, some (.invokevirtual 124, 3), none, none, some (.iconst 0, 1), some (.istore 5, 2), none, some (.iload 5, 2), none, some (.aload_n 0, 1), some (.getfield 110, 3), none, none, some (.if_icmp .gt 30, 3), none, none, some (.aload_n 0, 1), some (.getfield 39, 3), none, none, some (.iload 5, 2), none, some (.aload_n 0, 1), some (.getfield 33, 3), none, none, some (.bipush 34, 2), none, some (.iload_n 1, 1), some (.imul, 1), some (.iconst 0, 1), some (.iadd, 1), some (.iload 5, 2), none, some (.iadd, 1), some (.laload, 1), some (.lastore, 1), some (.iinc 5 1, 3), none, none, some (.goto (-33), 3), none, none, some (.iconst 0, 1), some (.istore 5, 2), none, some (.iload 5, 2), none, some (.aload_n 0, 1), some (.getfield 113, 3), none, none, some (.if_icmp .gt 31, 3), none, none, some (.aload_n 0, 1), some (.getfield 42, 3), none, none, some (.iload 5, 2), none, some (.aload_n 0, 1), some (.getfield 33, 3), none, none, some (.bipush 34, 2), none, some (.iload_n 1, 1), some (.imul, 1), some (.bipush 17, 2), none, some (.iadd, 1), some (.iload 5, 2), none, some (.iadd, 1), some (.laload, 1), some (.lastore, 1), some (.iinc 5 1, 3), none, none, some (.goto (-34), 3), none, none, some (.iconst 1, 1), some (.ireturn, 1)]
def m_M_choose : am_M := (⟨"SampledBanksModel", "choose", "()Z"⟩, prog_8_method_26_code, 6, (some .boolean), 5, k_M_choose)
set_option maxRecDepth 100000 in
theorem dk_M_choose : am_dk am_Ft false m_M_choose = true := by decide +kernel
end
section
def k_M_lead : List (Option (Instr × Nat)) := [some (.iconst (-1), 1), some (.istore_n 2, 1), some (.aload_n 0, 1), some (.getfield 106, 3), none, none, some (.iconst 1, 1), some (.isub, 1), some (.istore_n 3, 1), some (.iload_n 3, 1), some (.ifCond .lt 31, 3), none, none, some (.aload_n 0, 1), some (.getfield 33, 3), none, none, some (.bipush 34, 2), none, some (.iload_n 3, 1), some (.imul, 1), some (.iload_n 1, 1), some (.iadd, 1), some (.laload, 1), some (.lconst 0, 1), some (.lcmp, 1), some (.ifCond .eq 7, 3), none, none, some (.iload_n 3, 1), some (.goto 4, 3), none, none, some (.iload_n 2, 1), some (.istore_n 2, 1), some (.iinc 3 (-1), 3), none, none, some (.goto (-29), 3), none, none, some (.iload_n 2, 1), some (.ifCond .ge 5, 3), none, none, some (.iconst (-1), 1), some (.ireturn, 1), some (.aload_n 0, 1), some (.iload_n 2, 1), some (.aload_n 0, 1), some (.getfield 33, 3), none, none, some (.bipush 34, 2), none, some (.iload_n 2, 1), some (.imul, 1), some (.iload_n 1, 1), some (.iadd, 1), some (.laload, 1), some (.invokestatic 120, 3), none, none, some (.invokevirtual 132, 3), none, none, some (.iconst 0, 1), some (.istore_n 3, 1), some (.iload_n 3, 1), some (.aload_n 0, 1), some (.getfield 106, 3), none, none, some (.if_icmp .ge 31, 3), none, none, some (.iload_n 3, 1), some (.iload_n 2, 1), some (.if_icmp .eq 20, 3), none, none, some (.aload_n 0, 1), some (.iload_n 3, 1), some (.iload_n 2, 1), some (.aload_n 0, 1), some (.getfield 33, 3), none, none, some (.bipush 34, 2), none, some (.iload_n 3, 1), some (.imul, 1), some (.iload_n 1, 1), some (.iadd, 1), some (.laload, 1), some (.invokevirtual 124, 3), none, none, some (.iinc 3 1, 3), none, none, some (.goto (-33), 3), none, none, some (.aload_n 0, 1), some (.getfield 106, 3), none, none, some (.iconst 1, 1), some (.isub, 1), some (.istore_n 3, 1), some (.iconst 0, 1), some (.istore 4, 2), none, some (.iload 4, 2), none, some (.bipush 34, 2), none, some (.if_icmp .ge 61, 3), none, none, some (.aload_n 0, 1), some (.getfield 33, 3), none, none, some (.bipush 34, 2), none, some (.iload_n 2, 1), some (.imul, 1), some (.iload 4, 2), none, some (.iadd, 1), some (.laload, 1), some (.lstore 5, 2), none, some (.aload_n 0, 1), some (.getfield 33, 3), none, none, some (.bipush 34, 2), none, some (.iload_n 2, 1), some (.imul, 1), some (.iload 4, 2), none, some (.iadd, 1), some (.aload_n 0, 1), some (.getfield 33, 3), none, none, some (.bipush 34, 2), none, some (.iload_n 3, 1), some (.imul, 1), some (.iload 4, 2), none, some (.iadd, 1), some (.laload, 1), some (.lastore, 1), some (.aload_n 0, 1), some (.getfield 33, 3), none, none, some (.bipush 34, 2), none, some (.iload_n 3, 1), some (.imul, 1), some (.iload 4, 2), none, some (.iadd, 1), some (.lload 5, 2), none, some (.lastore, 1), some (.iinc 4 1, 3), none, none, some (.goto (-62), 3), none, none, some (.aload_n 0, 1), some (.dup, 1), some (.getfield 106, 3), none, none, some (.iconst 1, 1), some (.isub, 1), some (.putfield 106, 3), none, none, some (.iload_n 3, 1), some (.ireturn, 1)]
def m_M_lead : am_M := (⟨"SampledBanksModel", "lead", "(I)I"⟩, prog_8_method_25_code, 7, (some .int), 5, k_M_lead)
set_option maxRecDepth 100000 in
theorem dk_M_lead : am_dk am_Ft false m_M_lead = true := by decide +kernel
def k_M_scale : List (Option (Instr × Nat)) := [some (.bipush 34, 2), none, some (.iload_n 1, 1), some (.imul, 1), some (.istore 4, 2), none, some (.iload 4, 2), none, some (.bipush 34, 2), none, some (.iload_n 1, 1), some (.imul, 1), some (.bipush 34, 2), none, some (.iadd, 1), some (.if_icmp .ge 27, 3), none, none, some (.aload_n 0, 1), some (.getfield 33, 3), none, none, some (.iload 4, 2), none, some (.aload_n 0, 1), some (.getfield 33, 3), none, none, some (.iload 4, 2), none, some (.laload, 1), some (.lload_n 2, 1), some (.invokestatic 89, 3), none, none, some (.lastore, 1), some (.iinc 4 1, 3), none, none, some (.goto (-33), 3), none, none, some (.return_, 1)]
def m_M_scale : am_M := (⟨"SampledBanksModel", "scale", "(IJ)V"⟩, prog_8_method_20_code, 5, none, 5, k_M_scale)
set_option maxRecDepth 100000 in
theorem dk_M_scale : am_dk am_Ft false m_M_scale = true := by decide +kernel
def k_M_cancel : List (Option (Instr × Nat)) := [some (.aload_n 0, 1), some (.invokevirtual 152, 3), none, none, some (.iconst 0, 1), some (.istore_n 1, 1), some (.iload_n 1, 1), some (.bipush 17, 2), none, some (.if_icmp .ge 33, 3), none, none, some (.aload_n 0, 1), some (.getfield 45, 3), none, none, some (.iload_n 1, 1), some (.iload_n 1, 1), some (.aload_n 0, 1), some (.getfield 110, 3), none, none, some (.if_icmp .gt 12, 3), none, none, some (.aload_n 0, 1), some (.getfield 39, 3), none, none, some (.iload_n 1, 1), some (.laload, 1), some (.goto 4, 3), none, none, some (.lconst 0, 1), some (.lastore, 1), some (.iinc 1 1, 3), none, none, some (.goto (-33), 3), none, none, some (.aload_n 0, 1), some (.aload_n 0, 1), some (.getfield 110, 3), none, none, some (.invokevirtual 142, 3), none, none, some (.aload_n 0, 1), some (.aload_n 0, 1), some (.getfield 110, 3), none, none, some (.aload_n 0, 1), some (.getfield 139, 3), none, none, some (.isub, 1), some (.putfield 155, 3), none, none, some (.iconst 0, 1), some (.istore_n 1, 1), some (.iload_n 1, 1), some (.aload_n 0, 1), some (.getfield 155, 3), none, none, some (.if_icmp .gt 21, 3), none, none, some (.aload_n 0, 1), some (.getfield 26, 3), none, none, some (.iload_n 1, 1), some (.aload_n 0, 1), some (.getfield 51, 3), none, none, some (.iload_n 1, 1), some (.laload, 1), some (.lastore, 1), some (.iinc 1 1, 3), none, none, some (.goto (-23), 3), none, none, some (.iconst 0, 1), some (.istore_n 1, 1), some (.iload_n 1, 1), some (.bipush 17, 2), none, some (.if_icmp .ge 33, 3), none, none, some (.aload_n 0, 1), some (.getfield 45, 3), none, none, some (.iload_n 1, 1), some (.iload_n 1, 1), some (.aload_n 0, 1), some (.getfield 113, 3), none, none, some (.if_icmp .gt 12, 3), none, none, some (.aload_n 0, 1), some (.getfield 42, 3), none, none, some (.iload_n 1, 1), some (.laload, 1), some (.goto 4, 3), none, none, some (.lconst 0, 1), some (.lastore, 1), some (.iinc 1 1, 3), none, none, some (.goto (-33), 3), none, none, some (.aload_n 0, 1), some (.aload_n 0, 1), some (.getfield 113, 3), none, none, some (.invokevirtual 142, 3), none, none, some (.aload_n 0, 1), some (.aload_n 0, 1), some (.getfield 113, 3), none, none, some (.aload_n 0, 1), some (.getfield 139, 3), none, none, some (.isub, 1), some (.putfield 158, 3), none, none, some (.iconst 0, 1), some (.istore_n 1, 1), some (.iload_n 1, 1), some (.aload_n 0, 1), some (.getfield 158, 3), none, none, some (.if_icmp .gt 21, 3), none, none, some (.aload_n 0, 1), some (.getfield 30, 3), none, none, some (.iload_n 1, 1), some (.aload_n 0, 1), some (.getfield 51, 3), none, none, some (.iload_n 1, 1), some (.laload, 1), some (.lastore, 1), some (.iinc 1 1, 3), none, none, some (.goto (-23), 3), none, none, some (.return_, 1)]
def m_M_cancel : am_M := (⟨"SampledBanksModel", "cancel", "()V"⟩, prog_8_method_31_code, 2, none, 5, k_M_cancel)
set_option maxRecDepth 100000 in
theorem dk_M_cancel : am_dk am_Ft false m_M_cancel = true := by decide +kernel
def k_M_commonDivisor : List (Option (Instr × Nat)) := [some (.iconst 0, 1), some (.istore_n 1, 1), some (.iload_n 1, 1), some (.bipush 17, 2), none, some (.if_icmp .ge 57, 3), none, none, some (.aload_n 0, 1), some (.getfield 45, 3), none, none, some (.iload_n 1, 1), some (.iload_n 1, 1), some (.aload_n 0, 1), some (.getfield 110, 3), none, none, some (.if_icmp .gt 12, 3), none, none, some (.aload_n 0, 1), some (.getfield 39, 3), none, none, some (.iload_n 1, 1), some (.laload, 1), some (.goto 4, 3), none, none, some (.lconst 0, 1), some (.lastore, 1), some (.aload_n 0, 1), some (.getfield 48, 3), none, none, some (.iload_n 1, 1), some (.iload_n 1, 1), some (.aload_n 0, 1), some (.getfield 113, 3), none, none, some (.if_icmp .gt 12, 3), none, none, some (.aload_n 0, 1), some (.getfield 42, 3), none, none, some (.iload_n 1, 1), some (.laload, 1), some (.goto 4, 3), none, none, some (.lconst 0, 1), some (.lastore, 1), some (.iinc 1 1, 3), none, none, some (.goto (-57), 3), none, none, some (.aload_n 0, 1), some (.aload_n 0, 1), some (.getfield 113, 3), none, none, some (.putfield 139, 3), none, none, some (.aload_n 0, 1), some (.getfield 110, 3), none, none, some (.istore_n 1, 1), some (.iconst 1, 1), some (.istore_n 2, 1), some (.iload_n 2, 1), some (.ifCond .eq 100, 3), none, none, some (.iload_n 1, 1), some (.aload_n 0, 1), some (.getfield 139, 3), none, none, some (.if_icmp .lt 8, 3), none, none, some (.aload_n 0, 1), some (.iload_n 1, 1), some (.invokevirtual 142, 3), none, none, some (.aload_n 0, 1), some (.invokevirtual 145, 3), none, none, some (.istore_n 3, 1), some (.iload_n 3, 1), some (.ifCond .lt 7, 3), none, none, some (.iconst 1, 1), some (.goto 4, 3), none, none, some (.iconst 0, 1), some (.istore_n 2, 1), some (.iload_n 2, 1), some (.ifCond .eq 65, 3), none, none, some (.aload_n 0, 1), some (.getfield 139, 3), none, none, some (.istore_n 1, 1), some (.iconst 0, 1), some (.istore 4, 2), none, some (.iload 4, 2), none, some (.bipush 17, 2), none, some (.if_icmp .ge 41, 3), none, none, some (.aload_n 0, 1), some (.getfield 45, 3), none, none, some (.iload 4, 2), none, some (.laload, 1), some (.lstore 5, 2), none, some (.aload_n 0, 1), some (.getfield 45, 3), none, none, some (.iload 4, 2), none, some (.aload_n 0, 1), some (.getfield 48, 3), none, none, some (.iload 4, 2), none, some (.laload, 1), some (.lastore, 1), some (.aload_n 0, 1), some (.getfield 48, 3), none, none, some (.iload 4, 2), none, some (.lload 5, 2), none, some (.lastore, 1), some (.iinc 4 1, 3), none, none, some (.goto (-42), 3), none, none, some (.aload_n 0, 1), some (.iload_n 3, 1), some (.putfield 139, 3), none, none, some (.aload_n 0, 1), some (.invokevirtual 149, 3), none, none, some (.goto (-98), 3), none, none, some (.return_, 1)]
def m_M_commonDivisor : am_M := (⟨"SampledBanksModel", "commonDivisor", "()V"⟩, prog_8_method_30_code, 7, none, 5, k_M_commonDivisor)
set_option maxRecDepth 100000 in
theorem dk_M_commonDivisor : am_dk am_Ft false m_M_commonDivisor = true := by decide +kernel
def k_M_divide : List (Option (Instr × Nat)) := [some (.iload_n 1, 1), some (.aload_n 0, 1), some (.getfield 139, 3), none, none, some (.isub, 1), some (.istore_n 2, 1), some (.iload_n 2, 1), some (.ifCond .lt 78, 3), none, none, some (.aload_n 0, 1), some (.getfield 45, 3), none, none, some (.iload_n 2, 1), some (.aload_n 0, 1), some (.getfield 139, 3), none, none, some (.iadd, 1), some (.laload, 1), some (.lstore_n 3, 1), some (.aload_n 0, 1), some (.getfield 51, 3), none, none, some (.iload_n 2, 1), some (.lload_n 3, 1), some (.lastore, 1), some (.iconst 0, 1), some (.istore 5, 2), none, some (.iload 5, 2), none, some (.aload_n 0, 1), some (.getfield 139, 3), none, none, some (.if_icmp .gt 41, 3), none, none, some (.aload_n 0, 1), some (.getfield 45, 3), none, none, some (.iload_n 2, 1), some (.iload 5, 2), none, some (.iadd, 1), some (.aload_n 0, 1), some (.getfield 45, 3), none, none, some (.iload_n 2, 1), some (.iload 5, 2), none, some (.iadd, 1), some (.laload, 1), some (.lload_n 3, 1), some (.aload_n 0, 1), some (.getfield 48, 3), none, none, some (.iload 5, 2), none, some (.laload, 1), some (.invokestatic 89, 3), none, none, some (.invokestatic 103, 3), none, none, some (.lastore, 1), some (.iinc 5 1, 3), none, none, some (.goto (-44), 3), none, none, some (.iinc 2 (-1), 3), none, none, some (.goto (-76), 3), none, none, some (.return_, 1)]
def m_M_divide : am_M := (⟨"SampledBanksModel", "divide", "(I)V"⟩, prog_8_method_27_code, 6, none, 5, k_M_divide)
set_option maxRecDepth 100000 in
theorem dk_M_divide : am_dk am_Ft false m_M_divide = true := by decide +kernel
def k_M_left : List (Option (Instr × Nat)) := [some (.bipush 16, 2), none, some (.istore_n 1, 1), some (.iload_n 1, 1), some (.ifCond .lt 20, 3), none, none, some (.aload_n 0, 1), some (.getfield 45, 3), none, none, some (.iload_n 1, 1), some (.laload, 1), some (.lconst 0, 1), some (.lcmp, 1), some (.ifCond .ne 9, 3), none, none, some (.iinc 1 (-1), 3), none, none, some (.goto (-18), 3), none, none, some (.iload_n 1, 1), some (.ireturn, 1)]
def m_M_left : am_M := (⟨"SampledBanksModel", "left", "()I"⟩, prog_8_method_28_code, 2, (some .int), 5, k_M_left)
set_option maxRecDepth 100000 in
theorem dk_M_left : am_dk am_Ft false m_M_left = true := by decide +kernel
def k_M_makePlain : List (Option (Instr × Nat)) := [some (.aload_n 0, 1), some (.getfield 48, 3), none, none, some (.aload_n 0, 1), some (.getfield 139, 3), none, none, some (.laload, 1), some (.invokestatic 120, 3), none, none, some (.lstore_n 1, 1), some (.iconst 0, 1), some (.istore_n 3, 1), some (.iload_n 3, 1), some (.aload_n 0, 1), some (.getfield 139, 3), none, none, some (.if_icmp .gt 25, 3), none, none, some (.aload_n 0, 1), some (.getfield 48, 3), none, none, some (.iload_n 3, 1), some (.aload_n 0, 1), some (.getfield 48, 3), none, none, some (.iload_n 3, 1), some (.laload, 1), some (.lload_n 1, 1), some (.invokestatic 89, 3), none, none, some (.lastore, 1), some (.iinc 3 1, 3), none, none, some (.goto (-27), 3), none, none, some (.return_, 1)]
def m_M_makePlain : am_M := (⟨"SampledBanksModel", "makePlain", "()V"⟩, prog_8_method_29_code, 4, none, 5, k_M_makePlain)
set_option maxRecDepth 100000 in
theorem dk_M_makePlain : am_dk am_Ft false m_M_makePlain = true := by decide +kernel
def k_M_checked : List (Option (Instr × Nat)) := [some (.iconst 1, 1), some (.istore 4, 2), none, some (.iconst 0, 1), some (.istore 5, 2), none, some (.iload 5, 2), none, some (.iload_n 3, 1), some (.iconst 2, 1), some (.iadd, 1), some (.if_icmp .ge 63, 3), none, none, some (.iload 4, 2), none, some (.ifCond .eq 49, 3), none, none, some (.aload_n 0, 1), some (.iload 5, 2), none, some (.invokestatic 95, 3), none, none, some (.invokevirtual 185, 3), none, none, some (.aload_n 0, 1), some (.iload_n 2, 1), some (.iload 5, 2), none, some (.invokevirtual 99, 3), none, none, some (.invokestatic 89, 3), none, none, some (.aload_n 0, 1), some (.iload 5, 2), none, some (.invokestatic 95, 3), none, none, some (.invokevirtual 188, 3), none, none, some (.aload_n 0, 1), some (.iload_n 1, 1), some (.iload 5, 2), none, some (.invokevirtual 99, 3), none, none, some (.invokestatic 89, 3), none, none, some (.lcmp, 1), some (.ifCond .ne 7, 3), none, none, some (.iconst 1, 1), some (.goto 4, 3), none, none, some (.iconst 0, 1), some (.istore 4, 2), none, some (.iinc 5 1, 3), none, none, some (.goto (-65), 3), none, none, some (.iconst 0, 1), some (.istore 5, 2), none, some (.bipush 64, 2), none, some (.iload_n 1, 1), some (.imul, 1), some (.istore 6, 2), none, some (.iload 6, 2), none, some (.bipush 64, 2), none, some (.iload_n 1, 1), some (.imul, 1), some (.aload_n 0, 1), some (.getfield 7, 3), none, none, some (.iload_n 1, 1), some (.iaload, 1), some (.iadd, 1), some (.if_icmp .ge 35, 3), none, none, some (.iload 5, 2), none, some (.aload_n 0, 1), some (.aload_n 0, 1), some (.iload 6, 2), none, some (.invokevirtual 83, 3), none, none, some (.i2l, 1), some (.invokevirtual 185, 3), none, none, some (.lconst 0, 1), some (.lcmp, 1), some (.ifCond .ne 7, 3), none, none, some (.iconst 1, 1), some (.goto 4, 3), none, none, some (.iconst 0, 1), some (.iadd, 1), some (.istore 5, 2), none, some (.iinc 6 1, 3), none, none, some (.goto (-45), 3), none, none, some (.iconst 0, 1), some (.istore 6, 2), none, some (.bipush 64, 2), none, some (.iload_n 2, 1), some (.imul, 1), some (.istore 7, 2), none, some (.iload 7, 2), none, some (.bipush 64, 2), none, some (.iload_n 2, 1), some (.imul, 1), some (.aload_n 0, 1), some (.getfield 7, 3), none, none, some (.iload_n 2, 1), some (.iaload, 1), some (.iadd, 1), some (.if_icmp .ge 35, 3), none, none, some (.iload 6, 2), none, some (.aload_n 0, 1), some (.aload_n 0, 1), some (.iload 7, 2), none, some (.invokevirtual 83, 3), none, none, some (.i2l, 1), some (.invokevirtual 188, 3), none, none, some (.lconst 0, 1), some (.lcmp, 1), some (.ifCond .ne 7, 3), none, none, some (.iconst 1, 1), some (.goto 4, 3), none, none, some (.iconst 0, 1), some (.iadd, 1), some (.istore 6, 2), none, some (.iinc 7 1, 3), none, none, some (.goto (-45), 3), none, none, some (.iload 4, 2), none, some (.ifCond .eq 25, 3), none, none, some (.iload 5, 2), none, some (.aload_n 0, 1), some (.getfield 155, 3), none, none, some (.if_icmp .ne 16, 3), none, none, some (.iload 6, 2), none, some (.aload_n 0, 1), some (.getfield 158, 3), none, none, some (.if_icmp .ne 7, 3), none, none, some (.iconst 1, 1), some (.goto 4, 3), none, none, some (.iconst 0, 1), some (.ireturn, 1)]
def m_M_checked : am_M := (⟨"SampledBanksModel", "checked", "(III)Z"⟩, prog_8_method_38_code, 8, (some .boolean), 5, k_M_checked)
set_option maxRecDepth 100000 in
theorem dk_M_checked : am_dk am_Ft false m_M_checked = true := by decide +kernel
def k_M_upAt : List (Option (Instr × Nat)) := [some (.lconst 0, 1), some (.lstore_n 3, 1), some (.aload_n 0, 1), some (.getfield 155, 3), none, none, some (.istore 5, 2), none, some (.iload 5, 2), none, some (.ifCond .lt 27, 3), none, none, some (.lload_n 3, 1), some (.lload_n 1, 1), some (.invokestatic 89, 3), none, none, some (.aload_n 0, 1), some (.getfield 26, 3), none, none, some (.iload 5, 2), none, some (.laload, 1), some (.ladd, 1), some (.ldc2_w 87, 3), none, none, some (.lrem, 1), some (.lstore_n 3, 1), some (.iinc 5 (-1), 3), none, none, some (.goto (-26), 3), none, none, some (.lload_n 3, 1), some (.lreturn, 1)]
def m_M_upAt : am_M := (⟨"SampledBanksModel", "upAt", "(J)J"⟩, prog_8_method_32_code, 6, (some .long), 5, k_M_upAt)
set_option maxRecDepth 100000 in
theorem dk_M_upAt : am_dk am_Ft false m_M_upAt = true := by decide +kernel
def k_M_lowAt : List (Option (Instr × Nat)) := [some (.lconst 0, 1), some (.lstore_n 3, 1), some (.aload_n 0, 1), some (.getfield 158, 3), none, none, some (.istore 5, 2), none, some (.iload 5, 2), none, some (.ifCond .lt 27, 3), none, none, some (.lload_n 3, 1), some (.lload_n 1, 1), some (.invokestatic 89, 3), none, none, some (.aload_n 0, 1), some (.getfield 30, 3), none, none, some (.iload 5, 2), none, some (.laload, 1), some (.ladd, 1), some (.ldc2_w 87, 3), none, none, some (.lrem, 1), some (.lstore_n 3, 1), some (.iinc 5 (-1), 3), none, none, some (.goto (-26), 3), none, none, some (.lload_n 3, 1), some (.lreturn, 1)]
def m_M_lowAt : am_M := (⟨"SampledBanksModel", "lowAt", "(J)J"⟩, prog_8_method_33_code, 6, (some .long), 5, k_M_lowAt)
set_option maxRecDepth 100000 in
theorem dk_M_lowAt : am_dk am_Ft false m_M_lowAt = true := by decide +kernel
def k_M_offer : List (Option (Instr × Nat)) := [some (.aload_n 0, 1), some (.iload_n 1, 1), some (.aload_n 0, 1), some (.getfield 13, 3), none, none, some (.iload_n 2, 1), some (.iaload, 1), some (.invokevirtual 76, 3), none, none, some (.istore_n 3, 1), some (.iload_n 3, 1), some (.ifCond .lt 20, 3), none, none, some (.aload_n 0, 1), some (.getfield 16, 3), none, none, some (.iload_n 3, 1), some (.iaload, 1), some (.aload_n 0, 1), some (.getfield 16, 3), none, none, some (.iload_n 2, 1), some (.iaload, 1), some (.if_icmp .lt 5, 3), none, none, some (.iconst 0, 1), some (.ireturn, 1), some (.aload_n 0, 1), some (.iload_n 1, 1), some (.iload_n 2, 1), some (.invokevirtual 164, 3), none, none, some (.iconst 1, 1), some (.ireturn, 1)]
def m_M_offer : am_M := (⟨"SampledBanksModel", "offer", "(II)Z"⟩, prog_8_method_35_code, 4, (some .boolean), 5, k_M_offer)
set_option maxRecDepth 100000 in
theorem dk_M_offer : am_dk am_Ft false m_M_offer = true := by decide +kernel
def k_M_note : List (Option (Instr × Nat)) := [some (.aload_n 0, 1), some (.getfield 54, 3), none, none, some (.aload_n 0, 1), some (.getfield 161, 3), none, none, some (.iload_n 1, 1), some (.iastore, 1), some (.aload_n 0, 1), some (.getfield 57, 3), none, none, some (.aload_n 0, 1), some (.getfield 161, 3), none, none, some (.aload_n 0, 1), some (.getfield 13, 3), none, none, some (.iload_n 2, 1), some (.iaload, 1), some (.iastore, 1), some (.aload_n 0, 1), some (.getfield 60, 3), none, none, some (.aload_n 0, 1), some (.getfield 161, 3), none, none, some (.aload_n 0, 1), some (.getfield 16, 3), none, none, some (.iload_n 2, 1), some (.iaload, 1), some (.iastore, 1), some (.aload_n 0, 1), some (.getfield 63, 3), none, none, some (.aload_n 0, 1), some (.getfield 161, 3), none, none, some (.aload_n 0, 1), some (.getfield 19, 3), none, none, some (.iload_n 2, 1), some (.iaload, 1), some (.iastore, 1), some (.aload_n 0, 1), some (.getfield 66, 3), none, none, some (.aload_n 0, 1), some (.getfield 161, 3), none, none, some (.aload_n 0, 1), some (.getfield 22, 3), none, none, some (.iload_n 2, 1), some (.baload, 1), some (.bastore, 1), some (.aload_n 0, 1), some (.dup, 1), some (.getfield 161, 3), none, none, some (.iconst 1, 1), some (.iadd, 1), some (.putfield 161, 3), none, none, some (.return_, 1)]
def m_M_note : am_M := (⟨"SampledBanksModel", "note", "(II)V"⟩, prog_8_method_34_code, 3, none, 5, k_M_note)
set_option maxRecDepth 100000 in
theorem dk_M_note : am_dk am_Ft false m_M_note = true := by decide +kernel
end
section
def k_M_takeOver : List (Option (Instr × Nat)) := [some (.iconst 0, 1), some (.istore_n 1, 1), some (.iload_n 1, 1), some (.iconst 4, 1), some (.if_icmp .ge 73, 3), none, none, some (.aload_n 0, 1), some (.getfield 7, 3), none, none, some (.iload_n 1, 1), some (.iaload, 1), some (.istore_n 2, 1), some (.iconst 0, 1), some (.istore_n 3, 1), some (.iload_n 3, 1), some (.aload_n 0, 1), some (.getfield 161, 3), none, none, some (.if_icmp .ge 41, 3), none, none, some (.iload_n 2, 1), some (.aload_n 0, 1), some (.getfield 54, 3), none, none, some (.iload_n 3, 1), some (.iaload, 1), some (.iload_n 1, 1), some (.if_icmp .ne 21, 3), none, none, some (.aload_n 0, 1), some (.iload_n 1, 1), some (.aload_n 0, 1), some (.getfield 57, 3), none, none, some (.iload_n 3, 1), some (.iaload, 1), some (.invokevirtual 76, 3), none, none, some (.ifCond .ge 7, 3), none, none, some (.iconst 1, 1), some (.goto 4, 3), none, none, some (.iconst 0, 1), some (.iadd, 1), some (.istore_n 2, 1), some (.iinc 3 1, 3), none, none, some (.goto (-43), 3), none, none, some (.iload_n 2, 1), some (.bipush 64, 2), none, some (.if_icmp .le 6, 3), none, none, some (.bipush (-3), 2), none, some (.ireturn, 1), some (.iinc 1 1, 3), none, none, some (.goto (-72), 3), none, none, some (.iconst 0, 1), some (.istore_n 1, 1), some (.iload_n 1, 1), some (.aload_n 0, 1), some (.getfield 161, 3), none, none, some (.if_icmp .ge 84, 3), none, none, some (.aload_n 0, 1), some (.getfield 54, 3), none, none, some (.iload_n 1, 1), some (.iaload, 1), some (.istore_n 2, 1), some (.aload_n 0, 1), some (.iload_n 2, 1), some (.aload_n 0, 1), some (.getfield 57, 3), none, none, some (.iload_n 1, 1), some (.iaload, 1), some (.invokevirtual 76, 3), none, none, some (.istore_n 3, 1), some (.iload_n 3, 1), some (.ifCond .ge 17, 3), none, none, some (.aload_n 0, 1), some (.iload_n 2, 1), some (.aload_n 0, 1), some (.getfield 57, 3), none, none, some (.iload_n 1, 1), some (.iaload, 1), some (.invokevirtual 80, 3), none, none, some (.goto 4, 3), none, none, some (.iload_n 3, 1), some (.istore_n 3, 1), some (.aload_n 0, 1), some (.getfield 16, 3), none, none, some (.iload_n 3, 1), some (.aload_n 0, 1), some (.getfield 60, 3), none, none, some (.iload_n 1, 1), some (.iaload, 1), some (.iastore, 1), some (.aload_n 0, 1), some (.getfield 19, 3), none, none, some (.iload_n 3, 1), some (.aload_n 0, 1), some (.getfield 63, 3), none, none, some (.iload_n 1, 1), some (.iaload, 1), some (.iastore, 1), some (.aload_n 0, 1), some (.getfield 22, 3), none, none, some (.iload_n 3, 1), some (.aload_n 0, 1), some (.getfield 66, 3), none, none, some (.iload_n 1, 1), some (.baload, 1), some (.bastore, 1), some (.iinc 1 1, 3), none, none, some (.goto (-86), 3), none, none, some (.aload_n 0, 1), some (.dup, 1), some (.getfield 168, 3), none, none, some (.ldc2_w 172, 3), none, none, some (.aload_n 0, 1), some (.getfield 161, 3), none, none, some (.i2l, 1), some (.lmul, 1), some (.ladd, 1), some (.putfield 168, 3), none, none, some (.aload_n 0, 1), some (.getfield 161, 3), none, none, some (.ireturn, 1)]
def m_M_takeOver : am_M := (⟨"SampledBanksModel", "takeOver", "()I"⟩, prog_8_method_36_code, 4, (some .int), 5, k_M_takeOver)
set_option maxRecDepth 100000 in
theorem dk_M_takeOver : am_dk am_Ft false m_M_takeOver = true := by decide +kernel
def k_M_list : List (Option (Instr × Nat)) := [some (.iload_n 1, 1), some (.iload_n 2, 1), some (.invokestatic 208, 3), none, none, some (.ifCond .eq 12, 3), none, none, some (.aload_n 0, 1), some (.iload_n 1, 1), some (.iload_n 2, 1), some (.invokevirtual 218, 3), none, none, some (.goto 4, 3), none, none, some (.iconst (-1), 1), some (.ireturn, 1)]
def m_M_list : am_M := (⟨"SampledBanksModel", "list", "(II)I"⟩, prog_8_method_44_code, 3, (some .int), 5, k_M_list)
set_option maxRecDepth 100000 in
theorem dk_M_list : am_dk am_Ft false m_M_list = true := by decide +kernel
def k_M_listed : List (Option (Instr × Nat)) := [some (.aload_n 0, 1), some (.dup, 1), some (.getfield 168, 3), none, none, some (.ldc2_w 172, 3), none, none, some (.aload_n 0, 1), some (.getfield 7, 3), none, none, some (.iload_n 1, 1), some (.iaload, 1), some (.aload_n 0, 1), some (.getfield 7, 3), none, none, some (.iload_n 2, 1), some (.iaload, 1), some (.iadd, 1), some (.i2l, 1), some (.lmul, 1), some (.ladd, 1), some (.putfield 168, 3), none, none, some (.aload_n 0, 1), some (.iconst 0, 1), some (.putfield 161, 3), none, none, some (.bipush 64, 2), none, some (.iload_n 1, 1), some (.imul, 1), some (.istore_n 3, 1), some (.iload_n 3, 1), some (.bipush 64, 2), none, some (.iload_n 1, 1), some (.imul, 1), some (.aload_n 0, 1), some (.getfield 7, 3), none, none, some (.iload_n 1, 1), some (.iaload, 1), some (.iadd, 1), some (.if_icmp .ge 16, 3), none, none, some (.aload_n 0, 1), some (.iload_n 2, 1), some (.iload_n 3, 1), some (.invokevirtual 201, 3), none, none, some (.pop, 1), some (.iinc 3 1, 3), none, none, some (.goto (-25), 3), none, none, some (.bipush 64, 2), none, some (.iload_n 2, 1), some (.imul, 1), some (.istore_n 3, 1), some (.iload_n 3, 1), some (.bipush 64, 2), none, some (.iload_n 2, 1), some (.imul, 1), some (.aload_n 0, 1), some (.getfield 7, 3), none, none, some (.iload_n 2, 1), some (.iaload, 1), some (.iadd, 1), some (.if_icmp .ge 16, 3), none, none, some (.aload_n 0, 1), some (.iload_n 1, 1), some (.iload_n 3, 1), some (.invokevirtual 201, 3), none, none, some (.pop, 1), some (.iinc 3 1, 3), none, none, some (.goto (-25), 3), none, none, some (.aload_n 0, 1), some (.getfield 168, 3), none, none, some (.lstore_n 3, 1), some (.aload_n 0, 1), some (.invokevirtual 205, 3), none, none, some (.istore 5, 2), none, some (.aload_n 0, 1), some (.lload_n 3, 1), some (.putfield 168, 3), none, none, some (.iload 5, 2), none, some (.ireturn, 1)]
def m_M_listed : am_M := (⟨"SampledBanksModel", "listed", "(II)I"⟩, prog_8_method_43_code, 6, (some .int), 5, k_M_listed)
set_option maxRecDepth 100000 in
theorem dk_M_listed : am_dk am_Ft false m_M_listed = true := by decide +kernel
def k_M_settle : List (Option (Instr × Nat)) := [some (.iload_n 1, 1), some (.iload_n 2, 1), some (.invokestatic 208, 3), none, none, some (.ifCond .eq 20, 3), none, none, some (.iload_n 3, 1), some (.invokestatic 211, 3), none, none, some (.ifCond .eq 13, 3), none, none, some (.aload_n 0, 1), some (.iload_n 1, 1), some (.iload_n 2, 1), some (.iload_n 3, 1), some (.invokevirtual 221, 3), none, none, some (.goto 4, 3), none, none, some (.iconst (-1), 1), some (.ireturn, 1)]
def m_M_settle : am_M := (⟨"SampledBanksModel", "settle", "(III)I"⟩, prog_8_method_46_code, 4, (some .int), 5, k_M_settle)
set_option maxRecDepth 100000 in
theorem dk_M_settle : am_dk am_Ft false m_M_settle = true := by decide +kernel
def k_M_settled : List (Option (Instr × Nat)) := [some (.aload_n 0, 1), some (.iload_n 1, 1), some (.iload_n 2, 1), some (.iload_n 3, 1), some (.invokevirtual 214, 3), none, none, some (.istore 4, 2), none, some (.iload_n 3, 1), some (.istore 5, 2), none, some (.iload 4, 2), none, some (.bipush (-4), 2), none, some (.if_icmp .ne 43, 3), none, none, some (.iload 5, 2), none, some (.bipush 16, 2), none, some (.if_icmp .ge 36, 3), none, none, some (.iconst 2, 1), some (.iload 5, 2), none, some (.imul, 1), some (.bipush 16, 2), none, some (.if_icmp .le 8, 3), none, none, some (.bipush 16, 2), none, some (.goto 7, 3), none, none, some (.iconst 2, 1), some (.iload 5, 2), none, some (.imul, 1), some (.istore 5, 2), none, some (.aload_n 0, 1), some (.iload_n 1, 1), some (.iload_n 2, 1), some (.iload 5, 2), none, some (.invokevirtual 214, 3), none, none, some (.istore 4, 2), none, some (.goto (-44), 3), none, none, some (.iload 4, 2), none, some (.bipush (-4), 2), none, some (.if_icmp .ne 12, 3), none, none, some (.aload_n 0, 1), some (.iload_n 1, 1), some (.iload_n 2, 1), some (.invokevirtual 218, 3), none, none, some (.goto 5, 3), none, none, some (.iload 4, 2), none, some (.ireturn, 1)]
def m_M_settled : am_M := (⟨"SampledBanksModel", "settled", "(III)I"⟩, prog_8_method_45_code, 6, (some .int), 5, k_M_settled)
set_option maxRecDepth 100000 in
theorem dk_M_settled : am_dk am_Ft false m_M_settled = true := by decide +kernel
def k_M_spread : List (Option (Instr × Nat)) := [some (.iload_n 1, 1), some (.invokestatic 211, 3), none, none, some (.ifCond .ne 5, 3), none, none, some (.iconst (-1), 1), some (.ireturn, 1), some (.iconst 0, 1), some (.istore_n 2, 1), some (.iconst 0, 1), some (.istore_n 3, 1), some (.iload_n 3, 1), some (.iconst 5, 1), some (.if_icmp .ge 76, 3), none, none, some (.iload_n 3, 1), some (.iconst 1, 1), some (.if_icmp .eq 8, 3), none, none, some (.iload_n 3, 1), some (.iconst 3, 1), some (.if_icmp .ne 7, 3), none, none, some (.iconst 2, 1), some (.goto 4, 3), none, none, some (.iconst 0, 1), some (.istore 4, 2), none, some (.iload_n 3, 1), some (.iconst 1, 1), some (.if_icmp .eq 8, 3), none, none, some (.iload_n 3, 1), some (.iconst 3, 1), some (.if_icmp .ne 7, 3), none, none, some (.iconst 3, 1), some (.goto 13, 3), none, none, some (.iload_n 3, 1), some (.iconst 2, 1), some (.if_icmp .ne 7, 3), none, none, some (.iconst 2, 1), some (.goto 4, 3), none, none, some (.iconst 1, 1), some (.istore 5, 2), none, some (.aload_n 0, 1), some (.iload 4, 2), none, some (.iload 5, 2), none, some (.iload_n 1, 1), some (.invokevirtual 221, 3), none, none, some (.istore 6, 2), none, some (.iload 6, 2), none, some (.ifCond .ge 6, 3), none, none, some (.iload 6, 2), none, some (.ireturn, 1), some (.iload_n 2, 1), some (.iload 6, 2), none, some (.iadd, 1), some (.istore_n 2, 1), some (.iinc 3 1, 3), none, none, some (.goto (-75), 3), none, none, some (.iload_n 2, 1), some (.ireturn, 1)]
def m_M_spread : am_M := (⟨"SampledBanksModel", "spread", "(I)I"⟩, prog_8_method_47_code, 7, (some .int), 5, k_M_spread)
set_option maxRecDepth 100000 in
theorem dk_M_spread : am_dk am_Ft false m_M_spread = true := by decide +kernel
def k_M_difference : List (Option (Instr × Nat)) := [some (.iload_n 1, 1), some (.iload_n 2, 1), some (.invokestatic 208, 3), none, none, some (.ifCond .eq 19, 3), none, none, some (.aload_n 0, 1), some (.iload_n 1, 1), some (.iload_n 2, 1), some (.invokevirtual 224, 3), none, none, some (.aload_n 0, 1), some (.iload_n 2, 1), some (.iload_n 1, 1), some (.invokevirtual 224, 3), none, none, some (.iadd, 1), some (.goto 4, 3), none, none, some (.iconst (-1), 1), some (.ireturn, 1)]
def m_M_difference : am_M := (⟨"SampledBanksModel", "difference", "(II)I"⟩, prog_8_method_49_code, 3, (some .int), 5, k_M_difference)
set_option maxRecDepth 100000 in
theorem dk_M_difference : am_dk am_Ft false m_M_difference = true := by decide +kernel
def k_M_lacks : List (Option (Instr × Nat)) := [some (.iconst 0, 1), some (.istore_n 3, 1), some (.bipush 64, 2), none, some (.iload_n 1, 1), some (.imul, 1), some (.istore 4, 2), none, some (.iload 4, 2), none, some (.bipush 64, 2), none, some (.iload_n 1, 1), some (.imul, 1), some (.aload_n 0, 1), some (.getfield 7, 3), none, none, some (.iload_n 1, 1), some (.iaload, 1), some (.iadd, 1), some (.if_icmp .ge 53, 3), none, none, some (.aload_n 0, 1), some (.iload_n 2, 1), some (.aload_n 0, 1), some (.getfield 13, 3), none, none, some (.iload 4, 2), none, some (.iaload, 1), some (.invokevirtual 76, 3), none, none, some (.istore 5, 2), none, some (.iload_n 3, 1), some (.iload 5, 2), none, some (.ifCond .lt 20, 3), none, none, some (.aload_n 0, 1), some (.getfield 16, 3), none, none, some (.iload 5, 2), none, some (.iaload, 1), some (.aload_n 0, 1), some (.getfield 16, 3), none, none, some (.iload 4, 2), none, some (.iaload, 1), some (.if_icmp .eq 7, 3), none, none, some (.iconst 1, 1), some (.goto 4, 3), none, none, some (.iconst 0, 1), some (.iadd, 1), some (.istore_n 3, 1), some (.iinc 4 1, 3), none, none, some (.goto (-63), 3), none, none, some (.iload_n 3, 1), some (.ireturn, 1)]
def m_M_lacks : am_M := (⟨"SampledBanksModel", "lacks", "(II)I"⟩, prog_8_method_48_code, 6, (some .int), 5, k_M_lacks)
set_option maxRecDepth 100000 in
theorem dk_M_lacks : am_dk am_Ft false m_M_lacks = true := by decide +kernel
def k_M_sent : List (Option (Instr × Nat)) := [some (.aload_n 0, 1), some (.getfield 168, 3), none, none, some (.lreturn, 1)]
def m_M_sent : am_M := (⟨"SampledBanksModel", "sent", "()J"⟩, prog_8_method_50_code, 1, (some .long), 5, k_M_sent)
set_option maxRecDepth 100000 in
theorem dk_M_sent : am_dk am_Ft false m_M_sent = true := by decide +kernel
def k_M_degree : List (Option (Instr × Nat)) := [some (.iload_n 1, 1), some (.ifCond .ne 10, 3), none, none, some (.aload_n 0, 1), some (.getfield 155, 3), none, none, some (.goto 16, 3), none, none, some (.iload_n 1, 1), some (.iconst 1, 1), some (.if_icmp .ne 10, 3), none, none, some (.aload_n 0, 1), some (.getfield 158, 3), none, none, some (.goto 4, 3), none, none, some (.iconst (-1), 1), some (.ireturn, 1)]
def m_M_degree : am_M := (⟨"SampledBanksModel", "degree", "(I)I"⟩, prog_8_method_51_code, 2, (some .int), 5, k_M_degree)
set_option maxRecDepth 100000 in
theorem dk_M_degree : am_dk am_Ft false m_M_degree = true := by decide +kernel
def k_M_factor : List (Option (Instr × Nat)) := [some (.iload_n 2, 1), some (.ifCond .lt 31, 3), none, none, some (.iload_n 1, 1), some (.ifCond .lt 27, 3), none, none, some (.iload_n 1, 1), some (.iconst 1, 1), some (.if_icmp .gt 22, 3), none, none, some (.iload_n 2, 1), some (.iload_n 1, 1), some (.ifCond .ne 10, 3), none, none, some (.aload_n 0, 1), some (.getfield 155, 3), none, none, some (.goto 7, 3), none, none, some (.aload_n 0, 1), some (.getfield 158, 3), none, none, some (.if_icmp .le 5, 3), none, none, some (.iconst (-1), 1), some (.ireturn, 1), some (.iload_n 1, 1), some (.ifCond .ne 12, 3), none, none, some (.aload_n 0, 1), some (.getfield 26, 3), none, none, some (.iload_n 2, 1), some (.laload, 1), some (.goto 9, 3), none, none, some (.aload_n 0, 1), some (.getfield 30, 3), none, none, some (.iload_n 2, 1), some (.laload, 1), some (.l2i, 1), some (.ireturn, 1)]
def m_M_factor : am_M := (⟨"SampledBanksModel", "factor", "(II)I"⟩, prog_8_method_52_code, 3, (some .int), 5, k_M_factor)
set_option maxRecDepth 100000 in
theorem dk_M_factor : am_dk am_Ft false m_M_factor = true := by decide +kernel
end
section
def am_ms : List am_M := [m_L_law, m_B_init, m_R_init, m_A_init, m_Y_init, m_Q_init, m_B_put, m_B_isBank, m_B_isNumber, m_R_placeOf, m_R_holdsAt, m_R_versionAt, m_B_nextVersion, m_B_wordOf, m_R_store, m_R_copyRecord, m_B_drop, m_B_version, m_B_grams, m_B_size, m_B_word, m_B_sample, m_R_sampleAt, m_F_times, m_B_exchange, m_B_areTwoBanks, m_B_isReach, m_B_runExchange, m_A_find, m_A_takeSamples, m_Q_setRow, m_F_minus, m_F_plus, m_Q_solve, m_J_fill, m_Q_rowWithout0, m_Q_swapRows, m_F_inverse, m_Q_scaleRow, m_Q_clearColumn, m_Q_rightSidesAre0, m_Y_becomeSolution, m_Q_unknown, m_A_reduce, m_Y_become, m_Y_makeHighestOne, m_Y_becomeRemainder, m_Y_divideInPlace, m_Y_becomeQuotient, m_R_becomeZerosAmong, m_Y_valueAt, m_A_fitsSamples, m_B_deliverParcels, m_R_keepNewsFor, m_R_countWith, m_R_storeAll, m_B_list, m_B_runListing, m_R_becomeAllOf, m_B_settle, m_B_runSettling, m_B_spread, m_B_difference, m_R_wordsSharedWith, m_B_sent, m_B_degree, m_B_isPart, m_A_part, m_B_factor, m_M_init, m_M_put, m_M_isBank, m_M_isNumber, m_M_find, m_M_insert, m_M_drop, m_M_version, m_M_grams, m_M_size, m_M_word, m_M_wordAt, m_M_sample, m_M_sampleOf, m_M_point, m_M_mul, m_M_exchange, m_M_areTwo, m_M_isMany, m_M_exchanged, m_M_solved, m_M_allPairs, m_M_sift, m_M_valueOf, m_M_minus, m_M_inverse, m_M_take, m_M_removePair, m_M_choose, m_M_lead, m_M_scale, m_M_cancel, m_M_commonDivisor, m_M_divide, m_M_left, m_M_makePlain, m_M_checked, m_M_upAt, m_M_lowAt, m_M_offer, m_M_note, m_M_takeOver, m_M_list, m_M_listed, m_M_settle, m_M_settled, m_M_spread, m_M_difference, m_M_lacks, m_M_sent, m_M_degree, m_M_factor]
def Pg : am_P := (am_ms, am_Ft, am_Yt, am_Kt, am_Nt, am_St, 1, am_CN)
abbrev n_L_law : Nat := 0
theorem M_L_law : Pg.1[n_L_law]? = some m_L_law := rfl
abbrev n_B_init : Nat := 1
theorem M_B_init : Pg.1[n_B_init]? = some m_B_init := rfl
abbrev n_R_init : Nat := 2
theorem M_R_init : Pg.1[n_R_init]? = some m_R_init := rfl
abbrev n_A_init : Nat := 3
theorem M_A_init : Pg.1[n_A_init]? = some m_A_init := rfl
abbrev n_Y_init : Nat := 4
theorem M_Y_init : Pg.1[n_Y_init]? = some m_Y_init := rfl
abbrev n_Q_init : Nat := 5
theorem M_Q_init : Pg.1[n_Q_init]? = some m_Q_init := rfl
abbrev n_B_put : Nat := 6
theorem M_B_put : Pg.1[n_B_put]? = some m_B_put := rfl
abbrev n_B_isBank : Nat := 7
theorem M_B_isBank : Pg.1[n_B_isBank]? = some m_B_isBank := rfl
abbrev n_B_isNumber : Nat := 8
theorem M_B_isNumber : Pg.1[n_B_isNumber]? = some m_B_isNumber := rfl
abbrev n_R_placeOf : Nat := 9
theorem M_R_placeOf : Pg.1[n_R_placeOf]? = some m_R_placeOf := rfl
abbrev n_R_holdsAt : Nat := 10
theorem M_R_holdsAt : Pg.1[n_R_holdsAt]? = some m_R_holdsAt := rfl
abbrev n_R_versionAt : Nat := 11
theorem M_R_versionAt : Pg.1[n_R_versionAt]? = some m_R_versionAt := rfl
abbrev n_B_nextVersion : Nat := 12
theorem M_B_nextVersion : Pg.1[n_B_nextVersion]? = some m_B_nextVersion := rfl
abbrev n_B_wordOf : Nat := 13
theorem M_B_wordOf : Pg.1[n_B_wordOf]? = some m_B_wordOf := rfl
abbrev n_R_store : Nat := 14
theorem M_R_store : Pg.1[n_R_store]? = some m_R_store := rfl
abbrev n_R_copyRecord : Nat := 15
theorem M_R_copyRecord : Pg.1[n_R_copyRecord]? = some m_R_copyRecord := rfl
abbrev n_B_drop : Nat := 16
theorem M_B_drop : Pg.1[n_B_drop]? = some m_B_drop := rfl
abbrev n_B_version : Nat := 17
theorem M_B_version : Pg.1[n_B_version]? = some m_B_version := rfl
abbrev n_B_grams : Nat := 18
theorem M_B_grams : Pg.1[n_B_grams]? = some m_B_grams := rfl
abbrev n_B_size : Nat := 19
theorem M_B_size : Pg.1[n_B_size]? = some m_B_size := rfl
abbrev n_B_word : Nat := 20
theorem M_B_word : Pg.1[n_B_word]? = some m_B_word := rfl
abbrev n_B_sample : Nat := 21
theorem M_B_sample : Pg.1[n_B_sample]? = some m_B_sample := rfl
abbrev n_R_sampleAt : Nat := 22
theorem M_R_sampleAt : Pg.1[n_R_sampleAt]? = some m_R_sampleAt := rfl
abbrev n_F_times : Nat := 23
theorem M_F_times : Pg.1[n_F_times]? = some m_F_times := rfl
abbrev n_B_exchange : Nat := 24
theorem M_B_exchange : Pg.1[n_B_exchange]? = some m_B_exchange := rfl
abbrev n_B_areTwoBanks : Nat := 25
theorem M_B_areTwoBanks : Pg.1[n_B_areTwoBanks]? = some m_B_areTwoBanks := rfl
abbrev n_B_isReach : Nat := 26
theorem M_B_isReach : Pg.1[n_B_isReach]? = some m_B_isReach := rfl
abbrev n_B_runExchange : Nat := 27
theorem M_B_runExchange : Pg.1[n_B_runExchange]? = some m_B_runExchange := rfl
abbrev n_A_find : Nat := 28
theorem M_A_find : Pg.1[n_A_find]? = some m_A_find := rfl
abbrev n_A_takeSamples : Nat := 29
theorem M_A_takeSamples : Pg.1[n_A_takeSamples]? = some m_A_takeSamples := rfl
abbrev n_Q_setRow : Nat := 30
theorem M_Q_setRow : Pg.1[n_Q_setRow]? = some m_Q_setRow := rfl
abbrev n_F_minus : Nat := 31
theorem M_F_minus : Pg.1[n_F_minus]? = some m_F_minus := rfl
abbrev n_F_plus : Nat := 32
theorem M_F_plus : Pg.1[n_F_plus]? = some m_F_plus := rfl
abbrev n_Q_solve : Nat := 33
theorem M_Q_solve : Pg.1[n_Q_solve]? = some m_Q_solve := rfl
abbrev n_J_fill : Nat := 34
theorem M_J_fill : Pg.1[n_J_fill]? = some m_J_fill := rfl
abbrev n_Q_rowWithout0 : Nat := 35
theorem M_Q_rowWithout0 : Pg.1[n_Q_rowWithout0]? = some m_Q_rowWithout0 := rfl
abbrev n_Q_swapRows : Nat := 36
theorem M_Q_swapRows : Pg.1[n_Q_swapRows]? = some m_Q_swapRows := rfl
abbrev n_F_inverse : Nat := 37
theorem M_F_inverse : Pg.1[n_F_inverse]? = some m_F_inverse := rfl
abbrev n_Q_scaleRow : Nat := 38
theorem M_Q_scaleRow : Pg.1[n_Q_scaleRow]? = some m_Q_scaleRow := rfl
abbrev n_Q_clearColumn : Nat := 39
theorem M_Q_clearColumn : Pg.1[n_Q_clearColumn]? = some m_Q_clearColumn := rfl
abbrev n_Q_rightSidesAre0 : Nat := 40
theorem M_Q_rightSidesAre0 : Pg.1[n_Q_rightSidesAre0]? = some m_Q_rightSidesAre0 := rfl
abbrev n_Y_becomeSolution : Nat := 41
theorem M_Y_becomeSolution : Pg.1[n_Y_becomeSolution]? = some m_Y_becomeSolution := rfl
abbrev n_Q_unknown : Nat := 42
theorem M_Q_unknown : Pg.1[n_Q_unknown]? = some m_Q_unknown := rfl
abbrev n_A_reduce : Nat := 43
theorem M_A_reduce : Pg.1[n_A_reduce]? = some m_A_reduce := rfl
abbrev n_Y_become : Nat := 44
theorem M_Y_become : Pg.1[n_Y_become]? = some m_Y_become := rfl
abbrev n_Y_makeHighestOne : Nat := 45
theorem M_Y_makeHighestOne : Pg.1[n_Y_makeHighestOne]? = some m_Y_makeHighestOne := rfl
abbrev n_Y_becomeRemainder : Nat := 46
theorem M_Y_becomeRemainder : Pg.1[n_Y_becomeRemainder]? = some m_Y_becomeRemainder := rfl
abbrev n_Y_divideInPlace : Nat := 47
theorem M_Y_divideInPlace : Pg.1[n_Y_divideInPlace]? = some m_Y_divideInPlace := rfl
abbrev n_Y_becomeQuotient : Nat := 48
theorem M_Y_becomeQuotient : Pg.1[n_Y_becomeQuotient]? = some m_Y_becomeQuotient := rfl
abbrev n_R_becomeZerosAmong : Nat := 49
theorem M_R_becomeZerosAmong : Pg.1[n_R_becomeZerosAmong]? = some m_R_becomeZerosAmong := rfl
abbrev n_Y_valueAt : Nat := 50
theorem M_Y_valueAt : Pg.1[n_Y_valueAt]? = some m_Y_valueAt := rfl
abbrev n_A_fitsSamples : Nat := 51
theorem M_A_fitsSamples : Pg.1[n_A_fitsSamples]? = some m_A_fitsSamples := rfl
abbrev n_B_deliverParcels : Nat := 52
theorem M_B_deliverParcels : Pg.1[n_B_deliverParcels]? = some m_B_deliverParcels := rfl
abbrev n_R_keepNewsFor : Nat := 53
theorem M_R_keepNewsFor : Pg.1[n_R_keepNewsFor]? = some m_R_keepNewsFor := rfl
abbrev n_R_countWith : Nat := 54
theorem M_R_countWith : Pg.1[n_R_countWith]? = some m_R_countWith := rfl
abbrev n_R_storeAll : Nat := 55
theorem M_R_storeAll : Pg.1[n_R_storeAll]? = some m_R_storeAll := rfl
abbrev n_B_list : Nat := 56
theorem M_B_list : Pg.1[n_B_list]? = some m_B_list := rfl
abbrev n_B_runListing : Nat := 57
theorem M_B_runListing : Pg.1[n_B_runListing]? = some m_B_runListing := rfl
abbrev n_R_becomeAllOf : Nat := 58
theorem M_R_becomeAllOf : Pg.1[n_R_becomeAllOf]? = some m_R_becomeAllOf := rfl
abbrev n_B_settle : Nat := 59
theorem M_B_settle : Pg.1[n_B_settle]? = some m_B_settle := rfl
abbrev n_B_runSettling : Nat := 60
theorem M_B_runSettling : Pg.1[n_B_runSettling]? = some m_B_runSettling := rfl
abbrev n_B_spread : Nat := 61
theorem M_B_spread : Pg.1[n_B_spread]? = some m_B_spread := rfl
abbrev n_B_difference : Nat := 62
theorem M_B_difference : Pg.1[n_B_difference]? = some m_B_difference := rfl
abbrev n_R_wordsSharedWith : Nat := 63
theorem M_R_wordsSharedWith : Pg.1[n_R_wordsSharedWith]? = some m_R_wordsSharedWith := rfl
abbrev n_B_sent : Nat := 64
theorem M_B_sent : Pg.1[n_B_sent]? = some m_B_sent := rfl
abbrev n_B_degree : Nat := 65
theorem M_B_degree : Pg.1[n_B_degree]? = some m_B_degree := rfl
abbrev n_B_isPart : Nat := 66
theorem M_B_isPart : Pg.1[n_B_isPart]? = some m_B_isPart := rfl
abbrev n_A_part : Nat := 67
theorem M_A_part : Pg.1[n_A_part]? = some m_A_part := rfl
abbrev n_B_factor : Nat := 68
theorem M_B_factor : Pg.1[n_B_factor]? = some m_B_factor := rfl
abbrev n_M_init : Nat := 69
theorem M_M_init : Pg.1[n_M_init]? = some m_M_init := rfl
abbrev n_M_put : Nat := 70
theorem M_M_put : Pg.1[n_M_put]? = some m_M_put := rfl
abbrev n_M_isBank : Nat := 71
theorem M_M_isBank : Pg.1[n_M_isBank]? = some m_M_isBank := rfl
abbrev n_M_isNumber : Nat := 72
theorem M_M_isNumber : Pg.1[n_M_isNumber]? = some m_M_isNumber := rfl
abbrev n_M_find : Nat := 73
theorem M_M_find : Pg.1[n_M_find]? = some m_M_find := rfl
abbrev n_M_insert : Nat := 74
theorem M_M_insert : Pg.1[n_M_insert]? = some m_M_insert := rfl
abbrev n_M_drop : Nat := 75
theorem M_M_drop : Pg.1[n_M_drop]? = some m_M_drop := rfl
abbrev n_M_version : Nat := 76
theorem M_M_version : Pg.1[n_M_version]? = some m_M_version := rfl
abbrev n_M_grams : Nat := 77
theorem M_M_grams : Pg.1[n_M_grams]? = some m_M_grams := rfl
abbrev n_M_size : Nat := 78
theorem M_M_size : Pg.1[n_M_size]? = some m_M_size := rfl
abbrev n_M_word : Nat := 79
theorem M_M_word : Pg.1[n_M_word]? = some m_M_word := rfl
abbrev n_M_wordAt : Nat := 80
theorem M_M_wordAt : Pg.1[n_M_wordAt]? = some m_M_wordAt := rfl
abbrev n_M_sample : Nat := 81
theorem M_M_sample : Pg.1[n_M_sample]? = some m_M_sample := rfl
abbrev n_M_sampleOf : Nat := 82
theorem M_M_sampleOf : Pg.1[n_M_sampleOf]? = some m_M_sampleOf := rfl
abbrev n_M_point : Nat := 83
theorem M_M_point : Pg.1[n_M_point]? = some m_M_point := rfl
abbrev n_M_mul : Nat := 84
theorem M_M_mul : Pg.1[n_M_mul]? = some m_M_mul := rfl
abbrev n_M_exchange : Nat := 85
theorem M_M_exchange : Pg.1[n_M_exchange]? = some m_M_exchange := rfl
abbrev n_M_areTwo : Nat := 86
theorem M_M_areTwo : Pg.1[n_M_areTwo]? = some m_M_areTwo := rfl
abbrev n_M_isMany : Nat := 87
theorem M_M_isMany : Pg.1[n_M_isMany]? = some m_M_isMany := rfl
abbrev n_M_exchanged : Nat := 88
theorem M_M_exchanged : Pg.1[n_M_exchanged]? = some m_M_exchanged := rfl
abbrev n_M_solved : Nat := 89
theorem M_M_solved : Pg.1[n_M_solved]? = some m_M_solved := rfl
abbrev n_M_allPairs : Nat := 90
theorem M_M_allPairs : Pg.1[n_M_allPairs]? = some m_M_allPairs := rfl
abbrev n_M_sift : Nat := 91
theorem M_M_sift : Pg.1[n_M_sift]? = some m_M_sift := rfl
abbrev n_M_valueOf : Nat := 92
theorem M_M_valueOf : Pg.1[n_M_valueOf]? = some m_M_valueOf := rfl
abbrev n_M_minus : Nat := 93
theorem M_M_minus : Pg.1[n_M_minus]? = some m_M_minus := rfl
abbrev n_M_inverse : Nat := 94
theorem M_M_inverse : Pg.1[n_M_inverse]? = some m_M_inverse := rfl
abbrev n_M_take : Nat := 95
theorem M_M_take : Pg.1[n_M_take]? = some m_M_take := rfl
abbrev n_M_removePair : Nat := 96
theorem M_M_removePair : Pg.1[n_M_removePair]? = some m_M_removePair := rfl
abbrev n_M_choose : Nat := 97
theorem M_M_choose : Pg.1[n_M_choose]? = some m_M_choose := rfl
abbrev n_M_lead : Nat := 98
theorem M_M_lead : Pg.1[n_M_lead]? = some m_M_lead := rfl
abbrev n_M_scale : Nat := 99
theorem M_M_scale : Pg.1[n_M_scale]? = some m_M_scale := rfl
abbrev n_M_cancel : Nat := 100
theorem M_M_cancel : Pg.1[n_M_cancel]? = some m_M_cancel := rfl
abbrev n_M_commonDivisor : Nat := 101
theorem M_M_commonDivisor : Pg.1[n_M_commonDivisor]? = some m_M_commonDivisor := rfl
abbrev n_M_divide : Nat := 102
theorem M_M_divide : Pg.1[n_M_divide]? = some m_M_divide := rfl
abbrev n_M_left : Nat := 103
theorem M_M_left : Pg.1[n_M_left]? = some m_M_left := rfl
abbrev n_M_makePlain : Nat := 104
theorem M_M_makePlain : Pg.1[n_M_makePlain]? = some m_M_makePlain := rfl
abbrev n_M_checked : Nat := 105
theorem M_M_checked : Pg.1[n_M_checked]? = some m_M_checked := rfl
abbrev n_M_upAt : Nat := 106
theorem M_M_upAt : Pg.1[n_M_upAt]? = some m_M_upAt := rfl
abbrev n_M_lowAt : Nat := 107
theorem M_M_lowAt : Pg.1[n_M_lowAt]? = some m_M_lowAt := rfl
abbrev n_M_offer : Nat := 108
theorem M_M_offer : Pg.1[n_M_offer]? = some m_M_offer := rfl
abbrev n_M_note : Nat := 109
theorem M_M_note : Pg.1[n_M_note]? = some m_M_note := rfl
abbrev n_M_takeOver : Nat := 110
theorem M_M_takeOver : Pg.1[n_M_takeOver]? = some m_M_takeOver := rfl
abbrev n_M_list : Nat := 111
theorem M_M_list : Pg.1[n_M_list]? = some m_M_list := rfl
abbrev n_M_listed : Nat := 112
theorem M_M_listed : Pg.1[n_M_listed]? = some m_M_listed := rfl
abbrev n_M_settle : Nat := 113
theorem M_M_settle : Pg.1[n_M_settle]? = some m_M_settle := rfl
abbrev n_M_settled : Nat := 114
theorem M_M_settled : Pg.1[n_M_settled]? = some m_M_settled := rfl
abbrev n_M_spread : Nat := 115
theorem M_M_spread : Pg.1[n_M_spread]? = some m_M_spread := rfl
abbrev n_M_difference : Nat := 116
theorem M_M_difference : Pg.1[n_M_difference]? = some m_M_difference := rfl
abbrev n_M_lacks : Nat := 117
theorem M_M_lacks : Pg.1[n_M_lacks]? = some m_M_lacks := rfl
abbrev n_M_sent : Nat := 118
theorem M_M_sent : Pg.1[n_M_sent]? = some m_M_sent := rfl
abbrev n_M_degree : Nat := 119
theorem M_M_degree : Pg.1[n_M_degree]? = some m_M_degree := rfl
abbrev n_M_factor : Nat := 120
theorem M_M_factor : Pg.1[n_M_factor]? = some m_M_factor := rfl
end
section
/-! What the tables must say, printed by wip/whole/gengood.py -/
def am_WS : List Cond := lw_tbl.filter goodWord
def am_isn (w : Cond) : Bool := match w with
  | .fieldLinkNest .. => true
  | .methodLinkNest .. => true
  | _ => false
def am_NW : List Cond := lw_tbl.filter am_isn
theorem am_tb1 {w : Cond} (i : Nat) (h : tables_1_1[i]? = some w) : w ∈ lw_tbl := List.mem_append_right _ (List.mem_append_left _ (List.mem_of_getElem? h))
theorem am_tb2 {w : Cond} (i : Nat) (h : tables_1_2[i]? = some w) : w ∈ lw_tbl := List.mem_append_right _ (List.mem_append_right _ (List.mem_append_left _ (List.mem_of_getElem? h)))
theorem am_tb3 {w : Cond} (i : Nat) (h : tables_1_3[i]? = some w) : w ∈ lw_tbl := List.mem_append_right _ (List.mem_append_right _ (List.mem_append_right _ (List.mem_of_getElem? h)))
theorem am_tbs {w : Cond} (i : Nat) (h : (k2_sels lw_privs)[i]? = some w) : w ∈ lw_tbl := List.mem_append_left _ (List.mem_of_getElem? h)
theorem am_wsm {w : Cond} (h : w ∈ lw_tbl) (hg : goodWord w = true) : w ∈ am_WS := List.mem_filter.mpr ⟨h, hg⟩
theorem am_nwm {w : Cond} (h : w ∈ lw_tbl) (hg : am_isn w = true) : w ∈ am_NW := List.mem_filter.mpr ⟨h, hg⟩
theorem am_selm {y : MethodName} (h : Cond.selects y.cls y y ∈ am_WS) : am_sel am_WS y := fun _ _ g => g _ h
theorem am_gNW : am_GNW am_NW := by
  intro w hw
  have h := (List.mem_filter.mp hw).2
  cases w <;> first | (simp [am_isn] at h; done) | exact Or.inl ⟨_, _, _, _, _, _, rfl⟩ | exact Or.inr ⟨_, _, _, _, rfl⟩
theorem am_gW : am_GW am_WS := fun w hw => good_of_word (List.mem_filter.mp hw).2
theorem am_lku {α : Type} : ∀ (l : List (Nat × α)) (k : Nat) (v : α), List.lookup k l = some v → (k, v) ∈ l
  | [], k, v, h => by cases h
  | (a, b) :: t, k, v, h => by
    rw [List.lookup_cons] at h
    by_cases hk : k == a
    · rw [hk] at h
      cases h
      rw [beq_iff_eq.mp hk]
      exact List.mem_cons_self
    · simp only [hk] at h
      exact List.mem_cons_of_mem _ (am_lku t k v h)
theorem glay_B : ∀ w ∈ u_ws "SampledBanks" at_B 5, w ∈ am_WS := List.forall_mem_cons.mpr ⟨(am_wsm (am_tb1 116 rfl) rfl), List.forall_mem_cons.mpr ⟨(am_wsm (am_tb1 118 rfl) rfl), List.forall_mem_cons.mpr ⟨(am_wsm (am_tb1 120 rfl) rfl), List.forall_mem_cons.mpr ⟨(am_wsm (am_tb1 122 rfl) rfl), List.forall_mem_cons.mpr ⟨(am_wsm (am_tb1 124 rfl) rfl), fun _ h => absurd h List.not_mem_nil⟩⟩⟩⟩⟩
theorem glay_R : ∀ w ∈ u_ws "SampledBanks$Records" at_R 4, w ∈ am_WS := List.forall_mem_cons.mpr ⟨(am_wsm (am_tb1 35 rfl) rfl), List.forall_mem_cons.mpr ⟨(am_wsm (am_tb1 37 rfl) rfl), List.forall_mem_cons.mpr ⟨(am_wsm (am_tb1 39 rfl) rfl), List.forall_mem_cons.mpr ⟨(am_wsm (am_tb1 41 rfl) rfl), fun _ h => absurd h List.not_mem_nil⟩⟩⟩⟩
theorem glay_Y : ∀ w ∈ u_ws "SampledBanks$Polynomial" at_Y 2, w ∈ am_WS := List.forall_mem_cons.mpr ⟨(am_wsm (am_tb1 63 rfl) rfl), List.forall_mem_cons.mpr ⟨(am_wsm (am_tb1 65 rfl) rfl), fun _ h => absurd h List.not_mem_nil⟩⟩
theorem glay_Q : ∀ w ∈ u_ws "SampledBanks$Equations" at_Q 3, w ∈ am_WS := List.forall_mem_cons.mpr ⟨(am_wsm (am_tb1 80 rfl) rfl), List.forall_mem_cons.mpr ⟨(am_wsm (am_tb1 82 rfl) rfl), List.forall_mem_cons.mpr ⟨(am_wsm (am_tb1 84 rfl) rfl), fun _ h => absurd h List.not_mem_nil⟩⟩⟩
theorem glay_A : ∀ w ∈ u_ws "SampledBanks$Fraction" at_A 7, w ∈ am_WS := List.forall_mem_cons.mpr ⟨(am_wsm (am_tb1 96 rfl) rfl), List.forall_mem_cons.mpr ⟨(am_wsm (am_tb1 98 rfl) rfl), List.forall_mem_cons.mpr ⟨(am_wsm (am_tb1 100 rfl) rfl), List.forall_mem_cons.mpr ⟨(am_wsm (am_tb1 102 rfl) rfl), List.forall_mem_cons.mpr ⟨(am_wsm (am_tb1 104 rfl) rfl), List.forall_mem_cons.mpr ⟨(am_wsm (am_tb1 106 rfl) rfl), List.forall_mem_cons.mpr ⟨(am_wsm (am_tb1 108 rfl) rfl), fun _ h => absurd h List.not_mem_nil⟩⟩⟩⟩⟩⟩⟩
theorem glay_M : ∀ w ∈ u_ws "SampledBanksModel" at_M 27, w ∈ am_WS := List.forall_mem_cons.mpr ⟨(am_wsm (am_tb2 186 rfl) rfl), List.forall_mem_cons.mpr ⟨(am_wsm (am_tb2 188 rfl) rfl), List.forall_mem_cons.mpr ⟨(am_wsm (am_tb2 190 rfl) rfl), List.forall_mem_cons.mpr ⟨(am_wsm (am_tb2 192 rfl) rfl), List.forall_mem_cons.mpr ⟨(am_wsm (am_tb2 194 rfl) rfl), List.forall_mem_cons.mpr ⟨(am_wsm (am_tb2 196 rfl) rfl), List.forall_mem_cons.mpr ⟨(am_wsm (am_tb2 198 rfl) rfl), List.forall_mem_cons.mpr ⟨(am_wsm (am_tb2 200 rfl) rfl), List.forall_mem_cons.mpr ⟨(am_wsm (am_tb2 202 rfl) rfl), List.forall_mem_cons.mpr ⟨(am_wsm (am_tb2 204 rfl) rfl), List.forall_mem_cons.mpr ⟨(am_wsm (am_tb2 206 rfl) rfl), List.forall_mem_cons.mpr ⟨(am_wsm (am_tb2 208 rfl) rfl), List.forall_mem_cons.mpr ⟨(am_wsm (am_tb2 210 rfl) rfl), List.forall_mem_cons.mpr ⟨(am_wsm (am_tb2 212 rfl) rfl), List.forall_mem_cons.mpr ⟨(am_wsm (am_tb2 214 rfl) rfl), List.forall_mem_cons.mpr ⟨(am_wsm (am_tb2 216 rfl) rfl), List.forall_mem_cons.mpr ⟨(am_wsm (am_tb2 218 rfl) rfl), List.forall_mem_cons.mpr ⟨(am_wsm (am_tb2 220 rfl) rfl), List.forall_mem_cons.mpr ⟨(am_wsm (am_tb2 222 rfl) rfl), List.forall_mem_cons.mpr ⟨(am_wsm (am_tb2 224 rfl) rfl), List.forall_mem_cons.mpr ⟨(am_wsm (am_tb2 226 rfl) rfl), List.forall_mem_cons.mpr ⟨(am_wsm (am_tb2 228 rfl) rfl), List.forall_mem_cons.mpr ⟨(am_wsm (am_tb2 230 rfl) rfl), List.forall_mem_cons.mpr ⟨(am_wsm (am_tb2 232 rfl) rfl), List.forall_mem_cons.mpr ⟨(am_wsm (am_tb2 234 rfl) rfl), List.forall_mem_cons.mpr ⟨(am_wsm (am_tb2 236 rfl) rfl), List.forall_mem_cons.mpr ⟨(am_wsm (am_tb2 238 rfl) rfl), fun _ h => absurd h List.not_mem_nil⟩⟩⟩⟩⟩⟩⟩⟩⟩⟩⟩⟩⟩⟩⟩⟩⟩⟩⟩⟩⟩⟩⟩⟩⟩⟩⟩
theorem am_gC : am_GC am_cls am_WS := by
  intro ci C T N h
  match ci, h with
  | 0, h =>
    cases h
    exact ⟨glay_B, ⟨ay_B, ayo_B⟩, ann_B⟩
  | 1, h =>
    cases h
    exact ⟨glay_R, ⟨ay_R, ayo_R⟩, ann_R⟩
  | 2, h =>
    cases h
    exact ⟨glay_Y, ⟨ay_Y, ayo_Y⟩, ann_Y⟩
  | 3, h =>
    cases h
    exact ⟨glay_Q, ⟨ay_Q, ayo_Q⟩, ann_Q⟩
  | 4, h =>
    cases h
    exact ⟨glay_A, ⟨ay_A, ayo_A⟩, ann_A⟩
  | 5, h =>
    cases h
    exact ⟨glay_M, ⟨ay_M, ayo_M⟩, ann_M⟩
  | _ + 6, h => cases h
def am_pF : Nat → Nat × Nat × Nat × Nat × Nat → Prop := fun (own : Nat) (q : Nat × Nat × Nat × Nat × Nat) => ∃ (C : String) (T : u_T) (N : Nat) (ty : FieldType), am_cls[q.2.2.1]? = some (C, T, N) ∧ q.2.2.2.1 < N ∧ q.2.1 < 4 ∧ (q.2.1 = 0 ∨ q.2.1 = 2 → Cond.fieldLink (am_CN own) q.1 (T q.2.2.2.1).1 (T q.2.2.2.1).2.1 (T q.2.2.2.1).2.2.1 ∈ am_WS) ∧ (q.2.1 = 1 ∨ q.2.1 = 3 → ∃ host : String, Cond.fieldLinkNest (am_CN own) q.1 (T q.2.2.2.1).1 (T q.2.2.2.1).2.1 (T q.2.2.2.1).2.2.1 host ∈ am_NW) ∧ (q.2.1 = 0 ∨ q.2.1 = 1 → (T q.2.2.2.1).2.2.2 = false) ∧ (q.2.1 = 2 → (T q.2.2.2.1).2.2.2 = true ∧ (T q.2.2.2.1).1 = am_CN own) ∧ parseFieldDescriptor (T q.2.2.2.1).2.2.1 = some ty ∧ (q.2.2.2.2 = 0 → ty = .int) ∧ (q.2.2.2.2 = 1 → ty = .long) ∧ (q.2.2.2.2 = 2 → (∃ n, ty = .object n) ∨ ∃ u, ty = .array u)
theorem gf0 : ∀ q ∈ am_Ft0, am_pF 0 q := List.forall_mem_cons.mpr ⟨⟨_, _, _, ay_B 0, rfl, by decide, by decide, fun _ => (am_wsm (am_tb1 111 rfl) rfl), (fun z => absurd z (by decide)), (fun z => absurd z (by decide)), fun _ => ⟨rfl, rfl⟩, ayo_B 0 (by decide), (fun z => absurd z (by decide)), (fun z => absurd z (by decide)), (fun _ => Or.inr ⟨_, rfl⟩)⟩, List.forall_mem_cons.mpr ⟨⟨_, _, _, ay_B 1, rfl, by decide, by decide, fun _ => (am_wsm (am_tb1 112 rfl) rfl), (fun z => absurd z (by decide)), (fun z => absurd z (by decide)), fun _ => ⟨rfl, rfl⟩, ayo_B 1 (by decide), (fun z => absurd z (by decide)), (fun z => absurd z (by decide)), (fun _ => Or.inl ⟨_, rfl⟩)⟩, List.forall_mem_cons.mpr ⟨⟨_, _, _, ay_B 2, rfl, by decide, by decide, fun _ => (am_wsm (am_tb1 113 rfl) rfl), (fun z => absurd z (by decide)), (fun z => absurd z (by decide)), fun _ => ⟨rfl, rfl⟩, ayo_B 2 (by decide), (fun z => absurd z (by decide)), (fun z => absurd z (by decide)), (fun _ => Or.inl ⟨_, rfl⟩)⟩, List.forall_mem_cons.mpr ⟨⟨_, _, _, ay_B 3, rfl, by decide, by decide, fun _ => (am_wsm (am_tb1 114 rfl) rfl), (fun z => absurd z (by decide)), (fun z => absurd z (by decide)), fun _ => ⟨rfl, rfl⟩, ayo_B 3 (by decide), (fun z => absurd z (by decide)), (fun z => absurd z (by decide)), (fun _ => Or.inl ⟨_, rfl⟩)⟩, List.forall_mem_cons.mpr ⟨⟨_, _, _, ay_R 3, rfl, by decide, by decide, (fun z => absurd z (by decide)), fun _ => ⟨_, (am_nwm (am_tb1 33 rfl) rfl)⟩, fun _ => rfl, (fun z => absurd z (by decide)), ayo_R 3 (by decide), fun _ => rfl, (fun z => absurd z (by decide)), (fun z => absurd z (by decide))⟩, List.forall_mem_cons.mpr ⟨⟨_, _, _, ay_R 2, rfl, by decide, by decide, (fun z => absurd z (by decide)), fun _ => ⟨_, (am_nwm (am_tb1 31 rfl) rfl)⟩, (fun z => absurd z (by decide)), (fun z => absurd z (by decide)), ayo_R 2 (by decide), (fun z => absurd z (by decide)), (fun z => absurd z (by decide)), (fun _ => Or.inr ⟨_, rfl⟩)⟩, List.forall_mem_cons.mpr ⟨⟨_, _, _, ay_R 1, rfl, by decide, by decide, (fun z => absurd z (by decide)), fun _ => ⟨_, (am_nwm (am_tb1 29 rfl) rfl)⟩, (fun z => absurd z (by decide)), (fun z => absurd z (by decide)), ayo_R 1 (by decide), (fun z => absurd z (by decide)), (fun z => absurd z (by decide)), (fun _ => Or.inr ⟨_, rfl⟩)⟩, List.forall_mem_cons.mpr ⟨⟨_, _, _, ay_R 0, rfl, by decide, by decide, (fun z => absurd z (by decide)), fun _ => ⟨_, (am_nwm (am_tb1 27 rfl) rfl)⟩, (fun z => absurd z (by decide)), (fun z => absurd z (by decide)), ayo_R 0 (by decide), (fun z => absurd z (by decide)), (fun z => absurd z (by decide)), (fun _ => Or.inr ⟨_, rfl⟩)⟩, List.forall_mem_cons.mpr ⟨⟨_, _, _, ay_B 4, rfl, by decide, by decide, fun _ => (am_wsm (am_tb1 115 rfl) rfl), (fun z => absurd z (by decide)), fun _ => rfl, (fun z => absurd z (by decide)), ayo_B 4 (by decide), (fun z => absurd z (by decide)), fun _ => rfl, (fun z => absurd z (by decide))⟩, List.forall_mem_cons.mpr ⟨⟨_, _, _, ay_Y 1, rfl, by decide, by decide, (fun z => absurd z (by decide)), fun _ => ⟨_, (am_nwm (am_tb1 62 rfl) rfl)⟩, fun _ => rfl, (fun z => absurd z (by decide)), ayo_Y 1 (by decide), fun _ => rfl, (fun z => absurd z (by decide)), (fun z => absurd z (by decide))⟩, List.forall_mem_cons.mpr ⟨⟨_, _, _, ay_Y 0, rfl, by decide, by decide, (fun z => absurd z (by decide)), fun _ => ⟨_, (am_nwm (am_tb1 59 rfl) rfl)⟩, (fun z => absurd z (by decide)), (fun z => absurd z (by decide)), ayo_Y 0 (by decide), (fun z => absurd z (by decide)), (fun z => absurd z (by decide)), (fun _ => Or.inr ⟨_, rfl⟩)⟩, List.forall_mem_cons.mpr ⟨⟨_, _, _, ay_A 0, rfl, by decide, by decide, (fun z => absurd z (by decide)), fun _ => ⟨_, (am_nwm (am_tb1 88 rfl) rfl)⟩, (fun z => absurd z (by decide)), (fun z => absurd z (by decide)), ayo_A 0 (by decide), (fun z => absurd z (by decide)), (fun z => absurd z (by decide)), (fun _ => Or.inl ⟨_, rfl⟩)⟩, List.forall_mem_cons.mpr ⟨⟨_, _, _, ay_A 1, rfl, by decide, by decide, (fun z => absurd z (by decide)), fun _ => ⟨_, (am_nwm (am_tb1 90 rfl) rfl)⟩, (fun z => absurd z (by decide)), (fun z => absurd z (by decide)), ayo_A 1 (by decide), (fun z => absurd z (by decide)), (fun z => absurd z (by decide)), (fun _ => Or.inl ⟨_, rfl⟩)⟩, fun _ h => absurd h List.not_mem_nil⟩⟩⟩⟩⟩⟩⟩⟩⟩⟩⟩⟩⟩
theorem gf1 : ∀ q ∈ am_Ft1, am_pF 1 q := List.forall_mem_cons.mpr ⟨⟨_, _, _, ay_R 0, rfl, by decide, by decide, fun _ => (am_wsm (am_tb1 26 rfl) rfl), (fun z => absurd z (by decide)), (fun z => absurd z (by decide)), fun _ => ⟨rfl, rfl⟩, ayo_R 0 (by decide), (fun z => absurd z (by decide)), (fun z => absurd z (by decide)), (fun _ => Or.inr ⟨_, rfl⟩)⟩, List.forall_mem_cons.mpr ⟨⟨_, _, _, ay_R 1, rfl, by decide, by decide, fun _ => (am_wsm (am_tb1 28 rfl) rfl), (fun z => absurd z (by decide)), (fun z => absurd z (by decide)), fun _ => ⟨rfl, rfl⟩, ayo_R 1 (by decide), (fun z => absurd z (by decide)), (fun z => absurd z (by decide)), (fun _ => Or.inr ⟨_, rfl⟩)⟩, List.forall_mem_cons.mpr ⟨⟨_, _, _, ay_R 2, rfl, by decide, by decide, fun _ => (am_wsm (am_tb1 30 rfl) rfl), (fun z => absurd z (by decide)), (fun z => absurd z (by decide)), fun _ => ⟨rfl, rfl⟩, ayo_R 2 (by decide), (fun z => absurd z (by decide)), (fun z => absurd z (by decide)), (fun _ => Or.inr ⟨_, rfl⟩)⟩, List.forall_mem_cons.mpr ⟨⟨_, _, _, ay_R 3, rfl, by decide, by decide, fun _ => (am_wsm (am_tb1 32 rfl) rfl), (fun z => absurd z (by decide)), fun _ => rfl, (fun z => absurd z (by decide)), ayo_R 3 (by decide), fun _ => rfl, (fun z => absurd z (by decide)), (fun z => absurd z (by decide))⟩, fun _ h => absurd h List.not_mem_nil⟩⟩⟩⟩
theorem gf2 : ∀ q ∈ am_Ft2, am_pF 2 q := List.forall_mem_cons.mpr ⟨⟨_, _, _, ay_Y 0, rfl, by decide, by decide, fun _ => (am_wsm (am_tb1 58 rfl) rfl), (fun z => absurd z (by decide)), (fun z => absurd z (by decide)), fun _ => ⟨rfl, rfl⟩, ayo_Y 0 (by decide), (fun z => absurd z (by decide)), (fun z => absurd z (by decide)), (fun _ => Or.inr ⟨_, rfl⟩)⟩, List.forall_mem_cons.mpr ⟨⟨_, _, _, ay_Y 1, rfl, by decide, by decide, fun _ => (am_wsm (am_tb1 60 rfl) rfl), (fun z => absurd z (by decide)), fun _ => rfl, (fun z => absurd z (by decide)), ayo_Y 1 (by decide), fun _ => rfl, (fun z => absurd z (by decide)), (fun z => absurd z (by decide))⟩, fun _ h => absurd h List.not_mem_nil⟩⟩
theorem gf3 : ∀ q ∈ am_Ft3, am_pF 3 q := List.forall_mem_cons.mpr ⟨⟨_, _, _, ay_Q 0, rfl, by decide, by decide, fun _ => (am_wsm (am_tb1 77 rfl) rfl), (fun z => absurd z (by decide)), (fun z => absurd z (by decide)), fun _ => ⟨rfl, rfl⟩, ayo_Q 0 (by decide), (fun z => absurd z (by decide)), (fun z => absurd z (by decide)), (fun _ => Or.inr ⟨_, rfl⟩)⟩, List.forall_mem_cons.mpr ⟨⟨_, _, _, ay_Q 1, rfl, by decide, by decide, fun _ => (am_wsm (am_tb1 78 rfl) rfl), (fun z => absurd z (by decide)), (fun z => absurd z (by decide)), fun _ => ⟨rfl, rfl⟩, ayo_Q 1 (by decide), (fun z => absurd z (by decide)), (fun z => absurd z (by decide)), (fun _ => Or.inr ⟨_, rfl⟩)⟩, List.forall_mem_cons.mpr ⟨⟨_, _, _, ay_Q 2, rfl, by decide, by decide, fun _ => (am_wsm (am_tb1 79 rfl) rfl), (fun z => absurd z (by decide)), fun _ => rfl, (fun z => absurd z (by decide)), ayo_Q 2 (by decide), fun _ => rfl, (fun z => absurd z (by decide)), (fun z => absurd z (by decide))⟩, fun _ h => absurd h List.not_mem_nil⟩⟩⟩
theorem gf4 : ∀ q ∈ am_Ft4, am_pF 4 q := List.forall_mem_cons.mpr ⟨⟨_, _, _, ay_A 0, rfl, by decide, by decide, fun _ => (am_wsm (am_tb1 87 rfl) rfl), (fun z => absurd z (by decide)), (fun z => absurd z (by decide)), fun _ => ⟨rfl, rfl⟩, ayo_A 0 (by decide), (fun z => absurd z (by decide)), (fun z => absurd z (by decide)), (fun _ => Or.inl ⟨_, rfl⟩)⟩, List.forall_mem_cons.mpr ⟨⟨_, _, _, ay_A 1, rfl, by decide, by decide, fun _ => (am_wsm (am_tb1 89 rfl) rfl), (fun z => absurd z (by decide)), (fun z => absurd z (by decide)), fun _ => ⟨rfl, rfl⟩, ayo_A 1 (by decide), (fun z => absurd z (by decide)), (fun z => absurd z (by decide)), (fun _ => Or.inl ⟨_, rfl⟩)⟩, List.forall_mem_cons.mpr ⟨⟨_, _, _, ay_A 2, rfl, by decide, by decide, fun _ => (am_wsm (am_tb1 91 rfl) rfl), (fun z => absurd z (by decide)), (fun z => absurd z (by decide)), fun _ => ⟨rfl, rfl⟩, ayo_A 2 (by decide), (fun z => absurd z (by decide)), (fun z => absurd z (by decide)), (fun _ => Or.inl ⟨_, rfl⟩)⟩, List.forall_mem_cons.mpr ⟨⟨_, _, _, ay_A 3, rfl, by decide, by decide, fun _ => (am_wsm (am_tb1 92 rfl) rfl), (fun z => absurd z (by decide)), (fun z => absurd z (by decide)), fun _ => ⟨rfl, rfl⟩, ayo_A 3 (by decide), (fun z => absurd z (by decide)), (fun z => absurd z (by decide)), (fun _ => Or.inl ⟨_, rfl⟩)⟩, List.forall_mem_cons.mpr ⟨⟨_, _, _, ay_A 4, rfl, by decide, by decide, fun _ => (am_wsm (am_tb1 93 rfl) rfl), (fun z => absurd z (by decide)), (fun z => absurd z (by decide)), fun _ => ⟨rfl, rfl⟩, ayo_A 4 (by decide), (fun z => absurd z (by decide)), (fun z => absurd z (by decide)), (fun _ => Or.inl ⟨_, rfl⟩)⟩, List.forall_mem_cons.mpr ⟨⟨_, _, _, ay_A 5, rfl, by decide, by decide, fun _ => (am_wsm (am_tb1 94 rfl) rfl), (fun z => absurd z (by decide)), (fun z => absurd z (by decide)), fun _ => ⟨rfl, rfl⟩, ayo_A 5 (by decide), (fun z => absurd z (by decide)), (fun z => absurd z (by decide)), (fun _ => Or.inr ⟨_, rfl⟩)⟩, List.forall_mem_cons.mpr ⟨⟨_, _, _, ay_A 6, rfl, by decide, by decide, fun _ => (am_wsm (am_tb1 95 rfl) rfl), (fun z => absurd z (by decide)), (fun z => absurd z (by decide)), fun _ => ⟨rfl, rfl⟩, ayo_A 6 (by decide), (fun z => absurd z (by decide)), (fun z => absurd z (by decide)), (fun _ => Or.inr ⟨_, rfl⟩)⟩, List.forall_mem_cons.mpr ⟨⟨_, _, _, ay_R 3, rfl, by decide, by decide, (fun z => absurd z (by decide)), fun _ => ⟨_, (am_nwm (am_tb1 34 rfl) rfl)⟩, fun _ => rfl, (fun z => absurd z (by decide)), ayo_R 3 (by decide), fun _ => rfl, (fun z => absurd z (by decide)), (fun z => absurd z (by decide))⟩, List.forall_mem_cons.mpr ⟨⟨_, _, _, ay_Y 1, rfl, by decide, by decide, (fun z => absurd z (by decide)), fun _ => ⟨_, (am_nwm (am_tb1 61 rfl) rfl)⟩, fun _ => rfl, (fun z => absurd z (by decide)), ayo_Y 1 (by decide), fun _ => rfl, (fun z => absurd z (by decide)), (fun z => absurd z (by decide))⟩, fun _ h => absurd h List.not_mem_nil⟩⟩⟩⟩⟩⟩⟩⟩⟩
theorem gf5 : ∀ q ∈ am_Ft5, am_pF 5 q := List.forall_mem_cons.mpr ⟨⟨_, _, _, ay_M 0, rfl, by decide, by decide, fun _ => (am_wsm (am_tb2 159 rfl) rfl), (fun z => absurd z (by decide)), (fun z => absurd z (by decide)), fun _ => ⟨rfl, rfl⟩, ayo_M 0 (by decide), (fun z => absurd z (by decide)), (fun z => absurd z (by decide)), (fun _ => Or.inr ⟨_, rfl⟩)⟩, List.forall_mem_cons.mpr ⟨⟨_, _, _, ay_M 1, rfl, by decide, by decide, fun _ => (am_wsm (am_tb2 160 rfl) rfl), (fun z => absurd z (by decide)), (fun z => absurd z (by decide)), fun _ => ⟨rfl, rfl⟩, ayo_M 1 (by decide), (fun z => absurd z (by decide)), (fun z => absurd z (by decide)), (fun _ => Or.inr ⟨_, rfl⟩)⟩, List.forall_mem_cons.mpr ⟨⟨_, _, _, ay_M 2, rfl, by decide, by decide, fun _ => (am_wsm (am_tb2 161 rfl) rfl), (fun z => absurd z (by decide)), (fun z => absurd z (by decide)), fun _ => ⟨rfl, rfl⟩, ayo_M 2 (by decide), (fun z => absurd z (by decide)), (fun z => absurd z (by decide)), (fun _ => Or.inr ⟨_, rfl⟩)⟩, List.forall_mem_cons.mpr ⟨⟨_, _, _, ay_M 3, rfl, by decide, by decide, fun _ => (am_wsm (am_tb2 162 rfl) rfl), (fun z => absurd z (by decide)), (fun z => absurd z (by decide)), fun _ => ⟨rfl, rfl⟩, ayo_M 3 (by decide), (fun z => absurd z (by decide)), (fun z => absurd z (by decide)), (fun _ => Or.inr ⟨_, rfl⟩)⟩, List.forall_mem_cons.mpr ⟨⟨_, _, _, ay_M 4, rfl, by decide, by decide, fun _ => (am_wsm (am_tb2 163 rfl) rfl), (fun z => absurd z (by decide)), (fun z => absurd z (by decide)), fun _ => ⟨rfl, rfl⟩, ayo_M 4 (by decide), (fun z => absurd z (by decide)), (fun z => absurd z (by decide)), (fun _ => Or.inr ⟨_, rfl⟩)⟩, List.forall_mem_cons.mpr ⟨⟨_, _, _, ay_M 6, rfl, by decide, by decide, fun _ => (am_wsm (am_tb2 165 rfl) rfl), (fun z => absurd z (by decide)), (fun z => absurd z (by decide)), fun _ => ⟨rfl, rfl⟩, ayo_M 6 (by decide), (fun z => absurd z (by decide)), (fun z => absurd z (by decide)), (fun _ => Or.inr ⟨_, rfl⟩)⟩, List.forall_mem_cons.mpr ⟨⟨_, _, _, ay_M 7, rfl, by decide, by decide, fun _ => (am_wsm (am_tb2 166 rfl) rfl), (fun z => absurd z (by decide)), (fun z => absurd z (by decide)), fun _ => ⟨rfl, rfl⟩, ayo_M 7 (by decide), (fun z => absurd z (by decide)), (fun z => absurd z (by decide)), (fun _ => Or.inr ⟨_, rfl⟩)⟩, List.forall_mem_cons.mpr ⟨⟨_, _, _, ay_M 11, rfl, by decide, by decide, fun _ => (am_wsm (am_tb2 170 rfl) rfl), (fun z => absurd z (by decide)), (fun z => absurd z (by decide)), fun _ => ⟨rfl, rfl⟩, ayo_M 11 (by decide), (fun z => absurd z (by decide)), (fun z => absurd z (by decide)), (fun _ => Or.inr ⟨_, rfl⟩)⟩, List.forall_mem_cons.mpr ⟨⟨_, _, _, ay_M 12, rfl, by decide, by decide, fun _ => (am_wsm (am_tb2 171 rfl) rfl), (fun z => absurd z (by decide)), (fun z => absurd z (by decide)), fun _ => ⟨rfl, rfl⟩, ayo_M 12 (by decide), (fun z => absurd z (by decide)), (fun z => absurd z (by decide)), (fun _ => Or.inr ⟨_, rfl⟩)⟩, List.forall_mem_cons.mpr ⟨⟨_, _, _, ay_M 13, rfl, by decide, by decide, fun _ => (am_wsm (am_tb2 172 rfl) rfl), (fun z => absurd z (by decide)), (fun z => absurd z (by decide)), fun _ => ⟨rfl, rfl⟩, ayo_M 13 (by decide), (fun z => absurd z (by decide)), (fun z => absurd z (by decide)), (fun _ => Or.inr ⟨_, rfl⟩)⟩, List.forall_mem_cons.mpr ⟨⟨_, _, _, ay_M 14, rfl, by decide, by decide, fun _ => (am_wsm (am_tb2 173 rfl) rfl), (fun z => absurd z (by decide)), (fun z => absurd z (by decide)), fun _ => ⟨rfl, rfl⟩, ayo_M 14 (by decide), (fun z => absurd z (by decide)), (fun z => absurd z (by decide)), (fun _ => Or.inr ⟨_, rfl⟩)⟩, List.forall_mem_cons.mpr ⟨⟨_, _, _, ay_M 17, rfl, by decide, by decide, fun _ => (am_wsm (am_tb2 176 rfl) rfl), (fun z => absurd z (by decide)), (fun z => absurd z (by decide)), fun _ => ⟨rfl, rfl⟩, ayo_M 17 (by decide), (fun z => absurd z (by decide)), (fun z => absurd z (by decide)), (fun _ => Or.inr ⟨_, rfl⟩)⟩, List.forall_mem_cons.mpr ⟨⟨_, _, _, ay_M 18, rfl, by decide, by decide, fun _ => (am_wsm (am_tb2 177 rfl) rfl), (fun z => absurd z (by decide)), (fun z => absurd z (by decide)), fun _ => ⟨rfl, rfl⟩, ayo_M 18 (by decide), (fun z => absurd z (by decide)), (fun z => absurd z (by decide)), (fun _ => Or.inr ⟨_, rfl⟩)⟩, List.forall_mem_cons.mpr ⟨⟨_, _, _, ay_M 19, rfl, by decide, by decide, fun _ => (am_wsm (am_tb2 178 rfl) rfl), (fun z => absurd z (by decide)), (fun z => absurd z (by decide)), fun _ => ⟨rfl, rfl⟩, ayo_M 19 (by decide), (fun z => absurd z (by decide)), (fun z => absurd z (by decide)), (fun _ => Or.inr ⟨_, rfl⟩)⟩, List.forall_mem_cons.mpr ⟨⟨_, _, _, ay_M 22, rfl, by decide, by decide, fun _ => (am_wsm (am_tb2 181 rfl) rfl), (fun z => absurd z (by decide)), (fun z => absurd z (by decide)), fun _ => ⟨rfl, rfl⟩, ayo_M 22 (by decide), (fun z => absurd z (by decide)), (fun z => absurd z (by decide)), (fun _ => Or.inr ⟨_, rfl⟩)⟩, List.forall_mem_cons.mpr ⟨⟨_, _, _, ay_M 23, rfl, by decide, by decide, fun _ => (am_wsm (am_tb2 182 rfl) rfl), (fun z => absurd z (by decide)), (fun z => absurd z (by decide)), fun _ => ⟨rfl, rfl⟩, ayo_M 23 (by decide), (fun z => absurd z (by decide)), (fun z => absurd z (by decide)), (fun _ => Or.inr ⟨_, rfl⟩)⟩, List.forall_mem_cons.mpr ⟨⟨_, _, _, ay_M 24, rfl, by decide, by decide, fun _ => (am_wsm (am_tb2 183 rfl) rfl), (fun z => absurd z (by decide)), (fun z => absurd z (by decide)), fun _ => ⟨rfl, rfl⟩, ayo_M 24 (by decide), (fun z => absurd z (by decide)), (fun z => absurd z (by decide)), (fun _ => Or.inr ⟨_, rfl⟩)⟩, List.forall_mem_cons.mpr ⟨⟨_, _, _, ay_M 25, rfl, by decide, by decide, fun _ => (am_wsm (am_tb2 184 rfl) rfl), (fun z => absurd z (by decide)), (fun z => absurd z (by decide)), fun _ => ⟨rfl, rfl⟩, ayo_M 25 (by decide), (fun z => absurd z (by decide)), (fun z => absurd z (by decide)), (fun _ => Or.inr ⟨_, rfl⟩)⟩, List.forall_mem_cons.mpr ⟨⟨_, _, _, ay_M 26, rfl, by decide, by decide, fun _ => (am_wsm (am_tb2 185 rfl) rfl), (fun z => absurd z (by decide)), (fun z => absurd z (by decide)), fun _ => ⟨rfl, rfl⟩, ayo_M 26 (by decide), (fun z => absurd z (by decide)), (fun z => absurd z (by decide)), (fun _ => Or.inr ⟨_, rfl⟩)⟩, List.forall_mem_cons.mpr ⟨⟨_, _, _, ay_M 10, rfl, by decide, by decide, fun _ => (am_wsm (am_tb2 169 rfl) rfl), (fun z => absurd z (by decide)), fun _ => rfl, (fun z => absurd z (by decide)), ayo_M 10 (by decide), fun _ => rfl, (fun z => absurd z (by decide)), (fun z => absurd z (by decide))⟩, List.forall_mem_cons.mpr ⟨⟨_, _, _, ay_M 15, rfl, by decide, by decide, fun _ => (am_wsm (am_tb2 174 rfl) rfl), (fun z => absurd z (by decide)), fun _ => rfl, (fun z => absurd z (by decide)), ayo_M 15 (by decide), fun _ => rfl, (fun z => absurd z (by decide)), (fun z => absurd z (by decide))⟩, List.forall_mem_cons.mpr ⟨⟨_, _, _, ay_M 16, rfl, by decide, by decide, fun _ => (am_wsm (am_tb2 175 rfl) rfl), (fun z => absurd z (by decide)), fun _ => rfl, (fun z => absurd z (by decide)), ayo_M 16 (by decide), fun _ => rfl, (fun z => absurd z (by decide)), (fun z => absurd z (by decide))⟩, List.forall_mem_cons.mpr ⟨⟨_, _, _, ay_M 20, rfl, by decide, by decide, fun _ => (am_wsm (am_tb2 179 rfl) rfl), (fun z => absurd z (by decide)), fun _ => rfl, (fun z => absurd z (by decide)), ayo_M 20 (by decide), fun _ => rfl, (fun z => absurd z (by decide)), (fun z => absurd z (by decide))⟩, List.forall_mem_cons.mpr ⟨⟨_, _, _, ay_M 8, rfl, by decide, by decide, fun _ => (am_wsm (am_tb2 167 rfl) rfl), (fun z => absurd z (by decide)), fun _ => rfl, (fun z => absurd z (by decide)), ayo_M 8 (by decide), fun _ => rfl, (fun z => absurd z (by decide)), (fun z => absurd z (by decide))⟩, List.forall_mem_cons.mpr ⟨⟨_, _, _, ay_M 9, rfl, by decide, by decide, fun _ => (am_wsm (am_tb2 168 rfl) rfl), (fun z => absurd z (by decide)), fun _ => rfl, (fun z => absurd z (by decide)), ayo_M 9 (by decide), fun _ => rfl, (fun z => absurd z (by decide)), (fun z => absurd z (by decide))⟩, List.forall_mem_cons.mpr ⟨⟨_, _, _, ay_M 21, rfl, by decide, by decide, fun _ => (am_wsm (am_tb2 180 rfl) rfl), (fun z => absurd z (by decide)), fun _ => rfl, (fun z => absurd z (by decide)), ayo_M 21 (by decide), fun _ => rfl, (fun z => absurd z (by decide)), (fun z => absurd z (by decide))⟩, List.forall_mem_cons.mpr ⟨⟨_, _, _, ay_M 5, rfl, by decide, by decide, fun _ => (am_wsm (am_tb2 164 rfl) rfl), (fun z => absurd z (by decide)), fun _ => rfl, (fun z => absurd z (by decide)), ayo_M 5 (by decide), (fun z => absurd z (by decide)), fun _ => rfl, (fun z => absurd z (by decide))⟩, fun _ h => absurd h List.not_mem_nil⟩⟩⟩⟩⟩⟩⟩⟩⟩⟩⟩⟩⟩⟩⟩⟩⟩⟩⟩⟩⟩⟩⟩⟩⟩⟩⟩
theorem gf6 : ∀ q ∈ am_Ft6, am_pF 6 q := fun _ h => absurd h List.not_mem_nil
theorem gf7 : ∀ q ∈ am_Ft7, am_pF 7 q := fun _ h => absurd h List.not_mem_nil
theorem gf8 : ∀ q ∈ am_Ft8, am_pF 8 q := fun _ h => absurd h List.not_mem_nil
theorem am_gF : am_GF am_Ft am_CN am_cls am_WS am_NW := by
  intro own k kd ci i t h
  match own, h with
  | 0, h => exact gf0 _ (am_lku _ _ _ h)
  | 1, h => exact gf1 _ (am_lku _ _ _ h)
  | 2, h => exact gf2 _ (am_lku _ _ _ h)
  | 3, h => exact gf3 _ (am_lku _ _ _ h)
  | 4, h => exact gf4 _ (am_lku _ _ _ h)
  | 5, h => exact gf5 _ (am_lku _ _ _ h)
  | 6, h => exact gf6 _ (am_lku _ _ _ h)
  | 7, h => exact gf7 _ (am_lku _ _ _ h)
  | 8, h => exact gf8 _ (am_lku _ _ _ h)
  | _ + 9, h => cases h
def am_pN : Nat → Nat × Nat × List Value → Prop := fun own q => ∃ (C : String) (T : u_T) (N : Nat) (ty : Nat → FieldType), am_cls[q.2.1]? = some (C, T, N) ∧ Cond.classLink (am_CN own) q.1 C ∈ am_WS ∧ Cond.instantiable C N ∈ am_WS ∧ Cond.initialized C ∈ am_WS ∧ q.2.2.length = N ∧ (∀ k, k < N → parseFieldDescriptor (T k).2.2.1 = some (ty k)) ∧ (∀ j, j < N → defaultValue (ty j) = vp_V q.2.2 j) ∧ ∀ ad : Nat → Nat, q.2.2.map (am_tv ad) = q.2.2
theorem gn0 : ∀ q ∈ am_Nt0, am_pN 0 q := List.forall_mem_cons.mpr ⟨⟨_, _, _, ay_R, rfl, (am_wsm (am_tb1 19 rfl) rfl), (am_wsm (am_tb1 21 rfl) rfl), (am_wsm (am_tb1 2 rfl) rfl), rfl, ayo_R, by decide +kernel, fun _ => rfl⟩, List.forall_mem_cons.mpr ⟨⟨_, _, _, ay_A, rfl, (am_wsm (am_tb1 46 rfl) rfl), (am_wsm (am_tb1 47 rfl) rfl), (am_wsm (am_tb1 3 rfl) rfl), rfl, ayo_A, by decide +kernel, fun _ => rfl⟩, fun _ h => absurd h List.not_mem_nil⟩⟩
theorem gn1 : ∀ q ∈ am_Nt1, am_pN 1 q := fun _ h => absurd h List.not_mem_nil
theorem gn2 : ∀ q ∈ am_Nt2, am_pN 2 q := fun _ h => absurd h List.not_mem_nil
theorem gn3 : ∀ q ∈ am_Nt3, am_pN 3 q := fun _ h => absurd h List.not_mem_nil
theorem gn4 : ∀ q ∈ am_Nt4, am_pN 4 q := List.forall_mem_cons.mpr ⟨⟨_, _, _, ay_Y, rfl, (am_wsm (am_tb1 52 rfl) rfl), (am_wsm (am_tb1 53 rfl) rfl), (am_wsm (am_tb1 4 rfl) rfl), rfl, ayo_Y, by decide +kernel, fun _ => rfl⟩, List.forall_mem_cons.mpr ⟨⟨_, _, _, ay_Q, rfl, (am_wsm (am_tb1 69 rfl) rfl), (am_wsm (am_tb1 70 rfl) rfl), (am_wsm (am_tb1 5 rfl) rfl), rfl, ayo_Q, by decide +kernel, fun _ => rfl⟩, fun _ h => absurd h List.not_mem_nil⟩⟩
theorem gn5 : ∀ q ∈ am_Nt5, am_pN 5 q := fun _ h => absurd h List.not_mem_nil
theorem gn6 : ∀ q ∈ am_Nt6, am_pN 6 q := fun _ h => absurd h List.not_mem_nil
theorem gn7 : ∀ q ∈ am_Nt7, am_pN 7 q := List.forall_mem_cons.mpr ⟨⟨_, _, _, ay_B, rfl, (am_wsm (am_tb1 11 rfl) rfl), (am_wsm (am_tb1 12 rfl) rfl), (am_wsm (am_tb1 1 rfl) rfl), rfl, ayo_B, by decide +kernel, fun _ => rfl⟩, List.forall_mem_cons.mpr ⟨⟨_, _, _, ay_M, rfl, (am_wsm (am_tb2 153 rfl) rfl), (am_wsm (am_tb2 154 rfl) rfl), (am_wsm (am_tb1 6 rfl) rfl), rfl, ayo_M, by decide +kernel, fun _ => rfl⟩, fun _ h => absurd h List.not_mem_nil⟩⟩
theorem gn8 : ∀ q ∈ am_Nt8, am_pN 8 q := fun _ h => absurd h List.not_mem_nil
theorem am_gN : am_GN am_Nt am_CN am_cls am_WS 1 "SampledBanks$Records" := by
  refine ⟨⟨_, _, rfl⟩, ?_⟩
  intro own k ci fs h
  match own, h with
  | 0, h => exact gn0 _ (am_lku _ _ _ h)
  | 1, h => exact gn1 _ (am_lku _ _ _ h)
  | 2, h => exact gn2 _ (am_lku _ _ _ h)
  | 3, h => exact gn3 _ (am_lku _ _ _ h)
  | 4, h => exact gn4 _ (am_lku _ _ _ h)
  | 5, h => exact gn5 _ (am_lku _ _ _ h)
  | 6, h => exact gn6 _ (am_lku _ _ _ h)
  | 7, h => exact gn7 _ (am_lku _ _ _ h)
  | 8, h => exact gn8 _ (am_lku _ _ _ h)
  | _ + 9, h => cases h
theorem gc_B_init : am_cal m_B_init 0 am_WS := ⟨by decide +kernel, by decide, (am_wsm (am_tb1 15 rfl) rfl), (am_wsm (am_tb1 1 rfl) rfl), by decide +kernel, by decide +kernel, by decide +kernel⟩
theorem gc_R_init : am_cal m_R_init 0 am_WS := ⟨by decide +kernel, by decide, (am_wsm (am_tb1 24 rfl) rfl), (am_wsm (am_tb1 2 rfl) rfl), by decide +kernel, by decide +kernel, by decide +kernel⟩
theorem gc_A_init : am_cal m_A_init 0 am_WS := ⟨by decide +kernel, by decide, (am_wsm (am_tb1 50 rfl) rfl), (am_wsm (am_tb1 3 rfl) rfl), by decide +kernel, by decide +kernel, by decide +kernel⟩
theorem gc_Y_init : am_cal m_Y_init 0 am_WS := ⟨by decide +kernel, by decide, (am_wsm (am_tb1 56 rfl) rfl), (am_wsm (am_tb1 4 rfl) rfl), by decide +kernel, by decide +kernel, by decide +kernel⟩
theorem gc_Q_init : am_cal m_Q_init 0 am_WS := ⟨by decide +kernel, by decide, (am_wsm (am_tb1 73 rfl) rfl), (am_wsm (am_tb1 5 rfl) rfl), by decide +kernel, by decide +kernel, by decide +kernel⟩
theorem gc_B_put : am_cal m_B_put 3 am_WS := ⟨by decide +kernel, by decide, (am_wsm (am_tb1 130 rfl) rfl), (am_wsm (am_tb1 1 rfl) rfl), by decide +kernel, by decide +kernel, by decide +kernel⟩
theorem gc_B_isBank : am_cal m_B_isBank 1 am_WS := ⟨by decide +kernel, by decide, (am_wsm (am_tb1 133 rfl) rfl), (am_wsm (am_tb1 1 rfl) rfl), by decide +kernel, by decide +kernel, by decide +kernel⟩
theorem gc_B_isNumber : am_cal m_B_isNumber 1 am_WS := ⟨by decide +kernel, by decide, (am_wsm (am_tb1 136 rfl) rfl), (am_wsm (am_tb1 1 rfl) rfl), by decide +kernel, by decide +kernel, by decide +kernel⟩
theorem gc_R_placeOf : am_cal m_R_placeOf 1 am_WS := ⟨by decide +kernel, by decide, (am_wsm (am_tb1 140 rfl) rfl), (am_wsm (am_tb1 2 rfl) rfl), by decide +kernel, by decide +kernel, by decide +kernel⟩
theorem gc_R_holdsAt : am_cal m_R_holdsAt 2 am_WS := ⟨by decide +kernel, by decide, (am_wsm (am_tb1 144 rfl) rfl), (am_wsm (am_tb1 2 rfl) rfl), by decide +kernel, by decide +kernel, by decide +kernel⟩
theorem gc_R_versionAt : am_cal m_R_versionAt 1 am_WS := ⟨by decide +kernel, by decide, (am_wsm (am_tb1 148 rfl) rfl), (am_wsm (am_tb1 2 rfl) rfl), by decide +kernel, by decide +kernel, by decide +kernel⟩
theorem gc_B_nextVersion : am_cal m_B_nextVersion 2 am_WS := ⟨by decide +kernel, by decide, (am_wsm (am_tb1 151 rfl) rfl), (am_wsm (am_tb1 1 rfl) rfl), by decide +kernel, by decide +kernel, by decide +kernel⟩
theorem gc_B_wordOf : am_cal m_B_wordOf 2 am_WS := ⟨by decide +kernel, by decide, (am_wsm (am_tb1 154 rfl) rfl), (am_wsm (am_tb1 1 rfl) rfl), by decide +kernel, by decide +kernel, by decide +kernel⟩
theorem gc_R_store : am_cal m_R_store 3 am_WS := ⟨by decide +kernel, by decide, (am_wsm (am_tb1 158 rfl) rfl), (am_wsm (am_tb1 2 rfl) rfl), by decide +kernel, by decide +kernel, by decide +kernel⟩
theorem gc_R_copyRecord : am_cal m_R_copyRecord 3 am_WS := ⟨by decide +kernel, by decide, (am_wsm (am_tb1 164 rfl) rfl), (am_wsm (am_tb1 2 rfl) rfl), by decide +kernel, by decide +kernel, by decide +kernel⟩
theorem gc_B_drop : am_cal m_B_drop 2 am_WS := ⟨by decide +kernel, by decide, (am_wsm (am_tb1 168 rfl) rfl), (am_wsm (am_tb1 1 rfl) rfl), by decide +kernel, by decide +kernel, by decide +kernel⟩
theorem gc_B_version : am_cal m_B_version 2 am_WS := ⟨by decide +kernel, by decide, (am_wsm (am_tb1 172 rfl) rfl), (am_wsm (am_tb1 1 rfl) rfl), by decide +kernel, by decide +kernel, by decide +kernel⟩
theorem gc_B_grams : am_cal m_B_grams 2 am_WS := ⟨by decide +kernel, by decide, (am_wsm (am_tb1 176 rfl) rfl), (am_wsm (am_tb1 1 rfl) rfl), by decide +kernel, by decide +kernel, by decide +kernel⟩
theorem gc_B_size : am_cal m_B_size 1 am_WS := ⟨by decide +kernel, by decide, (am_wsm (am_tb1 180 rfl) rfl), (am_wsm (am_tb1 1 rfl) rfl), by decide +kernel, by decide +kernel, by decide +kernel⟩
theorem gc_B_word : am_cal m_B_word 2 am_WS := ⟨by decide +kernel, by decide, (am_wsm (am_tb1 184 rfl) rfl), (am_wsm (am_tb1 1 rfl) rfl), by decide +kernel, by decide +kernel, by decide +kernel⟩
theorem gc_B_sample : am_cal m_B_sample 2 am_WS := ⟨by decide +kernel, by decide, (am_wsm (am_tb1 188 rfl) rfl), (am_wsm (am_tb1 1 rfl) rfl), by decide +kernel, by decide +kernel, by decide +kernel⟩
theorem gc_R_sampleAt : am_cal m_R_sampleAt 1 am_WS := ⟨by decide +kernel, by decide, (am_wsm (am_tb1 193 rfl) rfl), (am_wsm (am_tb1 2 rfl) rfl), by decide +kernel, by decide +kernel, by decide +kernel⟩
theorem gc_F_times : am_cal m_F_times 2 am_WS := ⟨by decide +kernel, by decide, (am_wsm (am_tb1 196 rfl) rfl), (am_wsm (am_tb1 7 rfl) rfl), by decide +kernel, by decide +kernel, by decide +kernel⟩
theorem gc_B_exchange : am_cal m_B_exchange 3 am_WS := ⟨by decide +kernel, by decide, (am_wsm (am_tb1 201 rfl) rfl), (am_wsm (am_tb1 1 rfl) rfl), by decide +kernel, by decide +kernel, by decide +kernel⟩
theorem gc_B_areTwoBanks : am_cal m_B_areTwoBanks 2 am_WS := ⟨by decide +kernel, by decide, (am_wsm (am_tb1 204 rfl) rfl), (am_wsm (am_tb1 1 rfl) rfl), by decide +kernel, by decide +kernel, by decide +kernel⟩
theorem gc_B_isReach : am_cal m_B_isReach 1 am_WS := ⟨by decide +kernel, by decide, (am_wsm (am_tb1 207 rfl) rfl), (am_wsm (am_tb1 1 rfl) rfl), by decide +kernel, by decide +kernel, by decide +kernel⟩
theorem gc_B_runExchange : am_cal m_B_runExchange 3 am_WS := ⟨by decide +kernel, by decide, (am_wsm (am_tb1 211 rfl) rfl), (am_wsm (am_tb1 1 rfl) rfl), by decide +kernel, by decide +kernel, by decide +kernel⟩
theorem gc_A_find : am_cal m_A_find 3 am_WS := ⟨by decide +kernel, by decide, (am_wsm (am_tb1 215 rfl) rfl), (am_wsm (am_tb1 3 rfl) rfl), by decide +kernel, by decide +kernel, by decide +kernel⟩
theorem gc_A_takeSamples : am_cal m_A_takeSamples 3 am_WS := ⟨by decide +kernel, by decide, (am_wsm (am_tb1 219 rfl) rfl), (am_wsm (am_tb1 3 rfl) rfl), by decide +kernel, by decide +kernel, by decide +kernel⟩
theorem gc_Q_setRow : am_cal m_Q_setRow 6 am_WS := ⟨by decide +kernel, by decide, (am_wsm (am_tb1 225 rfl) rfl), (am_wsm (am_tb1 5 rfl) rfl), by decide +kernel, by decide +kernel, by decide +kernel⟩
theorem gc_F_minus : am_cal m_F_minus 2 am_WS := ⟨by decide +kernel, by decide, (am_wsm (am_tb1 229 rfl) rfl), (am_wsm (am_tb1 7 rfl) rfl), by decide +kernel, by decide +kernel, by decide +kernel⟩
theorem gc_F_plus : am_cal m_F_plus 2 am_WS := ⟨by decide +kernel, by decide, (am_wsm (am_tb1 232 rfl) rfl), (am_wsm (am_tb1 7 rfl) rfl), by decide +kernel, by decide +kernel, by decide +kernel⟩
theorem gc_Q_solve : am_cal m_Q_solve 1 am_WS := ⟨by decide +kernel, by decide, (am_wsm (am_tb1 236 rfl) rfl), (am_wsm (am_tb1 5 rfl) rfl), by decide +kernel, by decide +kernel, by decide +kernel⟩
theorem gc_J_fill : am_cal m_J_fill 2 am_WS := ⟨by decide +kernel, by decide, (am_wsm (am_tb1 239 rfl) rfl), (am_wsm (am_tb1 8 rfl) rfl), by decide +kernel, by decide +kernel, by decide +kernel⟩
theorem gc_Q_rowWithout0 : am_cal m_Q_rowWithout0 2 am_WS := ⟨by decide +kernel, by decide, (am_wsm (am_tb2 3 rfl) rfl), (am_wsm (am_tb1 5 rfl) rfl), by decide +kernel, by decide +kernel, by decide +kernel⟩
theorem gc_Q_swapRows : am_cal m_Q_swapRows 2 am_WS := ⟨by decide +kernel, by decide, (am_wsm (am_tb2 7 rfl) rfl), (am_wsm (am_tb1 5 rfl) rfl), by decide +kernel, by decide +kernel, by decide +kernel⟩
theorem gc_F_inverse : am_cal m_F_inverse 1 am_WS := ⟨by decide +kernel, by decide, (am_wsm (am_tb2 10 rfl) rfl), (am_wsm (am_tb1 7 rfl) rfl), by decide +kernel, by decide +kernel, by decide +kernel⟩
theorem gc_Q_scaleRow : am_cal m_Q_scaleRow 3 am_WS := ⟨by decide +kernel, by decide, (am_wsm (am_tb2 15 rfl) rfl), (am_wsm (am_tb1 5 rfl) rfl), by decide +kernel, by decide +kernel, by decide +kernel⟩
theorem gc_Q_clearColumn : am_cal m_Q_clearColumn 2 am_WS := ⟨by decide +kernel, by decide, (am_wsm (am_tb2 19 rfl) rfl), (am_wsm (am_tb1 5 rfl) rfl), by decide +kernel, by decide +kernel, by decide +kernel⟩
theorem gc_Q_rightSidesAre0 : am_cal m_Q_rightSidesAre0 1 am_WS := ⟨by decide +kernel, by decide, (am_wsm (am_tb2 23 rfl) rfl), (am_wsm (am_tb1 5 rfl) rfl), by decide +kernel, by decide +kernel, by decide +kernel⟩
theorem gc_Y_becomeSolution : am_cal m_Y_becomeSolution 3 am_WS := ⟨by decide +kernel, by decide, (am_wsm (am_tb2 27 rfl) rfl), (am_wsm (am_tb1 4 rfl) rfl), by decide +kernel, by decide +kernel, by decide +kernel⟩
theorem gc_Q_unknown : am_cal m_Q_unknown 1 am_WS := ⟨by decide +kernel, by decide, (am_wsm (am_tb2 31 rfl) rfl), (am_wsm (am_tb1 5 rfl) rfl), by decide +kernel, by decide +kernel, by decide +kernel⟩
theorem gc_A_reduce : am_cal m_A_reduce 0 am_WS := ⟨by decide +kernel, by decide, (am_wsm (am_tb2 35 rfl) rfl), (am_wsm (am_tb1 3 rfl) rfl), by decide +kernel, by decide +kernel, by decide +kernel⟩
theorem gc_Y_become : am_cal m_Y_become 1 am_WS := ⟨by decide +kernel, by decide, (am_wsm (am_tb2 39 rfl) rfl), (am_wsm (am_tb1 4 rfl) rfl), by decide +kernel, by decide +kernel, by decide +kernel⟩
theorem gc_Y_makeHighestOne : am_cal m_Y_makeHighestOne 0 am_WS := ⟨by decide +kernel, by decide, (am_wsm (am_tb2 46 rfl) rfl), (am_wsm (am_tb1 4 rfl) rfl), by decide +kernel, by decide +kernel, by decide +kernel⟩
theorem gc_Y_becomeRemainder : am_cal m_Y_becomeRemainder 1 am_WS := ⟨by decide +kernel, by decide, (am_wsm (am_tb2 52 rfl) rfl), (am_wsm (am_tb1 4 rfl) rfl), by decide +kernel, by decide +kernel, by decide +kernel⟩
theorem gc_Y_divideInPlace : am_cal m_Y_divideInPlace 1 am_WS := ⟨by decide +kernel, by decide, (am_wsm (am_tb2 56 rfl) rfl), (am_wsm (am_tb1 4 rfl) rfl), by decide +kernel, by decide +kernel, by decide +kernel⟩
theorem gc_Y_becomeQuotient : am_cal m_Y_becomeQuotient 1 am_WS := ⟨by decide +kernel, by decide, (am_wsm (am_tb2 64 rfl) rfl), (am_wsm (am_tb1 4 rfl) rfl), by decide +kernel, by decide +kernel, by decide +kernel⟩
theorem gc_R_becomeZerosAmong : am_cal m_R_becomeZerosAmong 2 am_WS := ⟨by decide +kernel, by decide, (am_wsm (am_tb2 68 rfl) rfl), (am_wsm (am_tb1 2 rfl) rfl), by decide +kernel, by decide +kernel, by decide +kernel⟩
theorem gc_Y_valueAt : am_cal m_Y_valueAt 1 am_WS := ⟨by decide +kernel, by decide, (am_wsm (am_tb2 72 rfl) rfl), (am_wsm (am_tb1 4 rfl) rfl), by decide +kernel, by decide +kernel, by decide +kernel⟩
theorem gc_A_fitsSamples : am_cal m_A_fitsSamples 1 am_WS := ⟨by decide +kernel, by decide, (am_wsm (am_tb2 77 rfl) rfl), (am_wsm (am_tb1 3 rfl) rfl), by decide +kernel, by decide +kernel, by decide +kernel⟩
theorem gc_B_deliverParcels : am_cal m_B_deliverParcels 2 am_WS := ⟨by decide +kernel, by decide, (am_wsm (am_tb2 83 rfl) rfl), (am_wsm (am_tb1 1 rfl) rfl), by decide +kernel, by decide +kernel, by decide +kernel⟩
theorem gc_R_keepNewsFor : am_cal m_R_keepNewsFor 1 am_WS := ⟨by decide +kernel, by decide, (am_wsm (am_tb2 87 rfl) rfl), (am_wsm (am_tb1 2 rfl) rfl), by decide +kernel, by decide +kernel, by decide +kernel⟩
theorem gc_R_countWith : am_cal m_R_countWith 1 am_WS := ⟨by decide +kernel, by decide, (am_wsm (am_tb2 91 rfl) rfl), (am_wsm (am_tb1 2 rfl) rfl), by decide +kernel, by decide +kernel, by decide +kernel⟩
theorem gc_R_storeAll : am_cal m_R_storeAll 1 am_WS := ⟨by decide +kernel, by decide, (am_wsm (am_tb2 95 rfl) rfl), (am_wsm (am_tb1 2 rfl) rfl), by decide +kernel, by decide +kernel, by decide +kernel⟩
theorem gc_B_list : am_cal m_B_list 2 am_WS := ⟨by decide +kernel, by decide, (am_wsm (am_tb2 100 rfl) rfl), (am_wsm (am_tb1 1 rfl) rfl), by decide +kernel, by decide +kernel, by decide +kernel⟩
theorem gc_B_runListing : am_cal m_B_runListing 2 am_WS := ⟨by decide +kernel, by decide, (am_wsm (am_tb2 104 rfl) rfl), (am_wsm (am_tb1 1 rfl) rfl), by decide +kernel, by decide +kernel, by decide +kernel⟩
theorem gc_R_becomeAllOf : am_cal m_R_becomeAllOf 1 am_WS := ⟨by decide +kernel, by decide, (am_wsm (am_tb2 108 rfl) rfl), (am_wsm (am_tb1 2 rfl) rfl), by decide +kernel, by decide +kernel, by decide +kernel⟩
theorem gc_B_settle : am_cal m_B_settle 3 am_WS := ⟨by decide +kernel, by decide, (am_wsm (am_tb2 112 rfl) rfl), (am_wsm (am_tb1 1 rfl) rfl), by decide +kernel, by decide +kernel, by decide +kernel⟩
theorem gc_B_runSettling : am_cal m_B_runSettling 3 am_WS := ⟨by decide +kernel, by decide, (am_wsm (am_tb2 116 rfl) rfl), (am_wsm (am_tb1 1 rfl) rfl), by decide +kernel, by decide +kernel, by decide +kernel⟩
theorem gc_B_spread : am_cal m_B_spread 1 am_WS := ⟨by decide +kernel, by decide, (am_wsm (am_tb2 121 rfl) rfl), (am_wsm (am_tb1 1 rfl) rfl), by decide +kernel, by decide +kernel, by decide +kernel⟩
theorem gc_B_difference : am_cal m_B_difference 2 am_WS := ⟨by decide +kernel, by decide, (am_wsm (am_tb2 129 rfl) rfl), (am_wsm (am_tb1 1 rfl) rfl), by decide +kernel, by decide +kernel, by decide +kernel⟩
theorem gc_R_wordsSharedWith : am_cal m_R_wordsSharedWith 1 am_WS := ⟨by decide +kernel, by decide, (am_wsm (am_tb2 133 rfl) rfl), (am_wsm (am_tb1 2 rfl) rfl), by decide +kernel, by decide +kernel, by decide +kernel⟩
theorem gc_B_sent : am_cal m_B_sent 0 am_WS := ⟨by decide +kernel, by decide, (am_wsm (am_tb2 137 rfl) rfl), (am_wsm (am_tb1 1 rfl) rfl), by decide +kernel, by decide +kernel, by decide +kernel⟩
theorem gc_B_degree : am_cal m_B_degree 1 am_WS := ⟨by decide +kernel, by decide, (am_wsm (am_tb2 141 rfl) rfl), (am_wsm (am_tb1 1 rfl) rfl), by decide +kernel, by decide +kernel, by decide +kernel⟩
theorem gc_B_isPart : am_cal m_B_isPart 1 am_WS := ⟨by decide +kernel, by decide, (am_wsm (am_tb2 144 rfl) rfl), (am_wsm (am_tb1 1 rfl) rfl), by decide +kernel, by decide +kernel, by decide +kernel⟩
theorem gc_A_part : am_cal m_A_part 1 am_WS := ⟨by decide +kernel, by decide, (am_wsm (am_tb2 148 rfl) rfl), (am_wsm (am_tb1 3 rfl) rfl), by decide +kernel, by decide +kernel, by decide +kernel⟩
theorem gc_B_factor : am_cal m_B_factor 2 am_WS := ⟨by decide +kernel, by decide, (am_wsm (am_tb2 152 rfl) rfl), (am_wsm (am_tb1 1 rfl) rfl), by decide +kernel, by decide +kernel, by decide +kernel⟩
theorem gc_M_init : am_cal m_M_init 0 am_WS := ⟨by decide +kernel, by decide, (am_wsm (am_tb2 157 rfl) rfl), (am_wsm (am_tb1 6 rfl) rfl), by decide +kernel, by decide +kernel, by decide +kernel⟩
theorem gc_M_put : am_cal m_M_put 3 am_WS := ⟨by decide +kernel, by decide, (am_wsm (am_tb3 4 rfl) rfl), (am_wsm (am_tb1 6 rfl) rfl), by decide +kernel, by decide +kernel, by decide +kernel⟩
theorem gc_M_isBank : am_cal m_M_isBank 1 am_WS := ⟨by decide +kernel, by decide, (am_wsm (am_tb3 7 rfl) rfl), (am_wsm (am_tb1 6 rfl) rfl), by decide +kernel, by decide +kernel, by decide +kernel⟩
theorem gc_M_isNumber : am_cal m_M_isNumber 1 am_WS := ⟨by decide +kernel, by decide, (am_wsm (am_tb3 10 rfl) rfl), (am_wsm (am_tb1 6 rfl) rfl), by decide +kernel, by decide +kernel, by decide +kernel⟩
theorem gc_M_find : am_cal m_M_find 2 am_WS := ⟨by decide +kernel, by decide, (am_wsm (am_tb3 14 rfl) rfl), (am_wsm (am_tb1 6 rfl) rfl), by decide +kernel, by decide +kernel, by decide +kernel⟩
theorem gc_M_insert : am_cal m_M_insert 2 am_WS := ⟨by decide +kernel, by decide, (am_wsm (am_tb3 18 rfl) rfl), (am_wsm (am_tb1 6 rfl) rfl), by decide +kernel, by decide +kernel, by decide +kernel⟩
theorem gc_M_drop : am_cal m_M_drop 2 am_WS := ⟨by decide +kernel, by decide, (am_wsm (am_tb3 22 rfl) rfl), (am_wsm (am_tb1 6 rfl) rfl), by decide +kernel, by decide +kernel, by decide +kernel⟩
theorem gc_M_version : am_cal m_M_version 2 am_WS := ⟨by decide +kernel, by decide, (am_wsm (am_tb3 26 rfl) rfl), (am_wsm (am_tb1 6 rfl) rfl), by decide +kernel, by decide +kernel, by decide +kernel⟩
theorem gc_M_grams : am_cal m_M_grams 2 am_WS := ⟨by decide +kernel, by decide, (am_wsm (am_tb3 30 rfl) rfl), (am_wsm (am_tb1 6 rfl) rfl), by decide +kernel, by decide +kernel, by decide +kernel⟩
theorem gc_M_size : am_cal m_M_size 1 am_WS := ⟨by decide +kernel, by decide, (am_wsm (am_tb3 34 rfl) rfl), (am_wsm (am_tb1 6 rfl) rfl), by decide +kernel, by decide +kernel, by decide +kernel⟩
theorem gc_M_word : am_cal m_M_word 2 am_WS := ⟨by decide +kernel, by decide, (am_wsm (am_tb3 38 rfl) rfl), (am_wsm (am_tb1 6 rfl) rfl), by decide +kernel, by decide +kernel, by decide +kernel⟩
theorem gc_M_wordAt : am_cal m_M_wordAt 1 am_WS := ⟨by decide +kernel, by decide, (am_wsm (am_tb3 42 rfl) rfl), (am_wsm (am_tb1 6 rfl) rfl), by decide +kernel, by decide +kernel, by decide +kernel⟩
theorem gc_M_sample : am_cal m_M_sample 2 am_WS := ⟨by decide +kernel, by decide, (am_wsm (am_tb3 46 rfl) rfl), (am_wsm (am_tb1 6 rfl) rfl), by decide +kernel, by decide +kernel, by decide +kernel⟩
theorem gc_M_sampleOf : am_cal m_M_sampleOf 2 am_WS := ⟨by decide +kernel, by decide, (am_wsm (am_tb3 50 rfl) rfl), (am_wsm (am_tb1 6 rfl) rfl), by decide +kernel, by decide +kernel, by decide +kernel⟩
theorem gc_M_point : am_cal m_M_point 1 am_WS := ⟨by decide +kernel, by decide, (am_wsm (am_tb3 53 rfl) rfl), (am_wsm (am_tb1 6 rfl) rfl), by decide +kernel, by decide +kernel, by decide +kernel⟩
theorem gc_M_mul : am_cal m_M_mul 2 am_WS := ⟨by decide +kernel, by decide, (am_wsm (am_tb3 57 rfl) rfl), (am_wsm (am_tb1 6 rfl) rfl), by decide +kernel, by decide +kernel, by decide +kernel⟩
theorem gc_M_exchange : am_cal m_M_exchange 3 am_WS := ⟨by decide +kernel, by decide, (am_wsm (am_tb3 62 rfl) rfl), (am_wsm (am_tb1 6 rfl) rfl), by decide +kernel, by decide +kernel, by decide +kernel⟩
theorem gc_M_areTwo : am_cal m_M_areTwo 2 am_WS := ⟨by decide +kernel, by decide, (am_wsm (am_tb3 65 rfl) rfl), (am_wsm (am_tb1 6 rfl) rfl), by decide +kernel, by decide +kernel, by decide +kernel⟩
theorem gc_M_isMany : am_cal m_M_isMany 1 am_WS := ⟨by decide +kernel, by decide, (am_wsm (am_tb3 68 rfl) rfl), (am_wsm (am_tb1 6 rfl) rfl), by decide +kernel, by decide +kernel, by decide +kernel⟩
theorem gc_M_exchanged : am_cal m_M_exchanged 3 am_WS := ⟨by decide +kernel, by decide, (am_wsm (am_tb3 72 rfl) rfl), (am_wsm (am_tb1 6 rfl) rfl), by decide +kernel, by decide +kernel, by decide +kernel⟩
theorem gc_M_solved : am_cal m_M_solved 3 am_WS := ⟨by decide +kernel, by decide, (am_wsm (am_tb3 76 rfl) rfl), (am_wsm (am_tb1 6 rfl) rfl), by decide +kernel, by decide +kernel, by decide +kernel⟩
theorem gc_M_allPairs : am_cal m_M_allPairs 0 am_WS := ⟨by decide +kernel, by decide, (am_wsm (am_tb3 80 rfl) rfl), (am_wsm (am_tb1 6 rfl) rfl), by decide +kernel, by decide +kernel, by decide +kernel⟩
theorem gc_M_sift : am_cal m_M_sift 3 am_WS := ⟨by decide +kernel, by decide, (am_wsm (am_tb3 84 rfl) rfl), (am_wsm (am_tb1 6 rfl) rfl), by decide +kernel, by decide +kernel, by decide +kernel⟩
theorem gc_M_valueOf : am_cal m_M_valueOf 3 am_WS := ⟨by decide +kernel, by decide, (am_wsm (am_tb3 88 rfl) rfl), (am_wsm (am_tb1 6 rfl) rfl), by decide +kernel, by decide +kernel, by decide +kernel⟩
theorem gc_M_minus : am_cal m_M_minus 2 am_WS := ⟨by decide +kernel, by decide, (am_wsm (am_tb3 91 rfl) rfl), (am_wsm (am_tb1 6 rfl) rfl), by decide +kernel, by decide +kernel, by decide +kernel⟩
theorem gc_M_inverse : am_cal m_M_inverse 1 am_WS := ⟨by decide +kernel, by decide, (am_wsm (am_tb3 94 rfl) rfl), (am_wsm (am_tb1 6 rfl) rfl), by decide +kernel, by decide +kernel, by decide +kernel⟩
theorem gc_M_take : am_cal m_M_take 3 am_WS := ⟨by decide +kernel, by decide, (am_wsm (am_tb3 98 rfl) rfl), (am_wsm (am_tb1 6 rfl) rfl), by decide +kernel, by decide +kernel, by decide +kernel⟩
theorem gc_M_removePair : am_cal m_M_removePair 1 am_WS := ⟨by decide +kernel, by decide, (am_wsm (am_tb3 102 rfl) rfl), (am_wsm (am_tb1 6 rfl) rfl), by decide +kernel, by decide +kernel, by decide +kernel⟩
theorem gc_M_choose : am_cal m_M_choose 0 am_WS := ⟨by decide +kernel, by decide, (am_wsm (am_tb3 106 rfl) rfl), (am_wsm (am_tb1 6 rfl) rfl), by decide +kernel, by decide +kernel, by decide +kernel⟩
theorem gc_M_lead : am_cal m_M_lead 1 am_WS := ⟨by decide +kernel, by decide, (am_wsm (am_tb3 110 rfl) rfl), (am_wsm (am_tb1 6 rfl) rfl), by decide +kernel, by decide +kernel, by decide +kernel⟩
theorem gc_M_scale : am_cal m_M_scale 2 am_WS := ⟨by decide +kernel, by decide, (am_wsm (am_tb3 114 rfl) rfl), (am_wsm (am_tb1 6 rfl) rfl), by decide +kernel, by decide +kernel, by decide +kernel⟩
theorem gc_M_cancel : am_cal m_M_cancel 0 am_WS := ⟨by decide +kernel, by decide, (am_wsm (am_tb3 118 rfl) rfl), (am_wsm (am_tb1 6 rfl) rfl), by decide +kernel, by decide +kernel, by decide +kernel⟩
theorem gc_M_commonDivisor : am_cal m_M_commonDivisor 0 am_WS := ⟨by decide +kernel, by decide, (am_wsm (am_tb3 122 rfl) rfl), (am_wsm (am_tb1 6 rfl) rfl), by decide +kernel, by decide +kernel, by decide +kernel⟩
theorem gc_M_divide : am_cal m_M_divide 1 am_WS := ⟨by decide +kernel, by decide, (am_wsm (am_tb3 126 rfl) rfl), (am_wsm (am_tb1 6 rfl) rfl), by decide +kernel, by decide +kernel, by decide +kernel⟩
theorem gc_M_left : am_cal m_M_left 0 am_WS := ⟨by decide +kernel, by decide, (am_wsm (am_tb3 130 rfl) rfl), (am_wsm (am_tb1 6 rfl) rfl), by decide +kernel, by decide +kernel, by decide +kernel⟩
theorem gc_M_makePlain : am_cal m_M_makePlain 0 am_WS := ⟨by decide +kernel, by decide, (am_wsm (am_tb3 134 rfl) rfl), (am_wsm (am_tb1 6 rfl) rfl), by decide +kernel, by decide +kernel, by decide +kernel⟩
theorem gc_M_checked : am_cal m_M_checked 3 am_WS := ⟨by decide +kernel, by decide, (am_wsm (am_tb3 138 rfl) rfl), (am_wsm (am_tb1 6 rfl) rfl), by decide +kernel, by decide +kernel, by decide +kernel⟩
theorem gc_M_upAt : am_cal m_M_upAt 1 am_WS := ⟨by decide +kernel, by decide, (am_wsm (am_tb3 142 rfl) rfl), (am_wsm (am_tb1 6 rfl) rfl), by decide +kernel, by decide +kernel, by decide +kernel⟩
theorem gc_M_lowAt : am_cal m_M_lowAt 1 am_WS := ⟨by decide +kernel, by decide, (am_wsm (am_tb3 146 rfl) rfl), (am_wsm (am_tb1 6 rfl) rfl), by decide +kernel, by decide +kernel, by decide +kernel⟩
theorem gc_M_offer : am_cal m_M_offer 2 am_WS := ⟨by decide +kernel, by decide, (am_wsm (am_tb3 150 rfl) rfl), (am_wsm (am_tb1 6 rfl) rfl), by decide +kernel, by decide +kernel, by decide +kernel⟩
theorem gc_M_note : am_cal m_M_note 2 am_WS := ⟨by decide +kernel, by decide, (am_wsm (am_tb3 154 rfl) rfl), (am_wsm (am_tb1 6 rfl) rfl), by decide +kernel, by decide +kernel, by decide +kernel⟩
theorem gc_M_takeOver : am_cal m_M_takeOver 0 am_WS := ⟨by decide +kernel, by decide, (am_wsm (am_tb3 158 rfl) rfl), (am_wsm (am_tb1 6 rfl) rfl), by decide +kernel, by decide +kernel, by decide +kernel⟩
theorem gc_M_list : am_cal m_M_list 2 am_WS := ⟨by decide +kernel, by decide, (am_wsm (am_tb3 163 rfl) rfl), (am_wsm (am_tb1 6 rfl) rfl), by decide +kernel, by decide +kernel, by decide +kernel⟩
theorem gc_M_listed : am_cal m_M_listed 2 am_WS := ⟨by decide +kernel, by decide, (am_wsm (am_tb3 167 rfl) rfl), (am_wsm (am_tb1 6 rfl) rfl), by decide +kernel, by decide +kernel, by decide +kernel⟩
theorem gc_M_settle : am_cal m_M_settle 3 am_WS := ⟨by decide +kernel, by decide, (am_wsm (am_tb3 171 rfl) rfl), (am_wsm (am_tb1 6 rfl) rfl), by decide +kernel, by decide +kernel, by decide +kernel⟩
theorem gc_M_settled : am_cal m_M_settled 3 am_WS := ⟨by decide +kernel, by decide, (am_wsm (am_tb3 175 rfl) rfl), (am_wsm (am_tb1 6 rfl) rfl), by decide +kernel, by decide +kernel, by decide +kernel⟩
theorem gc_M_spread : am_cal m_M_spread 1 am_WS := ⟨by decide +kernel, by decide, (am_wsm (am_tb3 179 rfl) rfl), (am_wsm (am_tb1 6 rfl) rfl), by decide +kernel, by decide +kernel, by decide +kernel⟩
theorem gc_M_difference : am_cal m_M_difference 2 am_WS := ⟨by decide +kernel, by decide, (am_wsm (am_tb3 183 rfl) rfl), (am_wsm (am_tb1 6 rfl) rfl), by decide +kernel, by decide +kernel, by decide +kernel⟩
theorem gc_M_lacks : am_cal m_M_lacks 2 am_WS := ⟨by decide +kernel, by decide, (am_wsm (am_tb3 187 rfl) rfl), (am_wsm (am_tb1 6 rfl) rfl), by decide +kernel, by decide +kernel, by decide +kernel⟩
theorem gc_M_sent : am_cal m_M_sent 0 am_WS := ⟨by decide +kernel, by decide, (am_wsm (am_tb3 191 rfl) rfl), (am_wsm (am_tb1 6 rfl) rfl), by decide +kernel, by decide +kernel, by decide +kernel⟩
theorem gc_M_degree : am_cal m_M_degree 1 am_WS := ⟨by decide +kernel, by decide, (am_wsm (am_tb3 195 rfl) rfl), (am_wsm (am_tb1 6 rfl) rfl), by decide +kernel, by decide +kernel, by decide +kernel⟩
theorem gc_M_factor : am_cal m_M_factor 2 am_WS := ⟨by decide +kernel, by decide, (am_wsm (am_tb3 199 rfl) rfl), (am_wsm (am_tb1 6 rfl) rfl), by decide +kernel, by decide +kernel, by decide +kernel⟩
end
section
def am_pY : Nat → Nat × Nat × Nat × Nat × Nat → Prop := fun own q =>
  (q.2.1 < 5 → ∃ M2 : am_M, Pg.1[q.2.2.1]? = some M2 ∧ am_cal M2 q.2.2.2.1 am_WS ∧ (q.2.1 = 0 → Cond.methodLink (am_CN own) q.1 M2.1 ∈ am_WS ∧ Cond.static M2.1 ∈ am_WS) ∧
    (q.2.1 = 1 → Cond.methodLink (am_CN own) q.1 M2.1 ∈ am_WS ∧ Cond.instanceMethod M2.1 ∈ am_WS ∧ am_sel am_WS M2.1 ∧ ∃ (T : u_T) (N : Nat), am_cls[q.2.2.2.2]? = some (M2.1.cls, T, N)) ∧
    (q.2.1 = 2 → (∃ host : String, Cond.methodLinkNest (am_CN own) q.1 M2.1 host ∈ am_NW) ∧ Cond.instanceMethod M2.1 ∈ am_WS ∧ am_sel am_WS M2.1 ∧ ∃ (T : u_T) (N : Nat), am_cls[q.2.2.2.2]? = some (M2.1.cls, T, N)) ∧
    (q.2.1 = 3 → Cond.methodLink (am_CN own) q.1 M2.1 ∈ am_WS ∧ Cond.instanceMethod M2.1 ∈ am_WS ∧ M2.1.name = "<init>" ∧ M2.2.2.2.1 = none) ∧
    (q.2.1 = 4 → (∃ host : String, Cond.methodLinkNest (am_CN own) q.1 M2.1 host ∈ am_NW) ∧ Cond.instanceMethod M2.1 ∈ am_WS ∧ M2.1.name = "<init>" ∧ M2.2.2.2.1 = none)) ∧
  (q.2.1 = 5 → Cond.methodLink (am_CN own) q.1 Lib.objectInit ∈ am_WS ∧ Cond.instanceMethod Lib.objectInit ∈ am_WS ∧ Cond.code Lib.objectInit ⟨#[0xb1]⟩ 1 none ∈ am_WS) ∧
  (q.2.1 = 6 → Cond.methodLink (am_CN own) q.1 Lib.Math.min.name ∈ am_WS ∧ Cond.static Lib.Math.min.name ∈ am_WS ∧ Cond.initialized "java/lang/Math" ∈ am_WS ∧ Cond.code Lib.Math.min.name Lib.Math.min.code 2 (some .int) ∈ am_WS) ∧
  (q.2.1 = 7 → Cond.methodLink (am_CN own) q.1 arraycopyName ∈ am_WS ∧ Cond.native arraycopyName ∈ am_WS ∧ Cond.static arraycopyName ∈ am_WS ∧ Cond.initialized "java/lang/System" ∈ am_WS)
theorem gy0_3 : am_pY 0 (3, 5, 0, 0, 0) := ⟨(fun z => absurd z (by decide)), fun _ => ⟨(am_wsm (am_tb1 16 rfl) rfl), (am_wsm (am_tb1 17 rfl) rfl), (am_wsm (am_tb1 18 rfl) rfl)⟩, (fun z => absurd z (by decide)), (fun z => absurd z (by decide))⟩
theorem gy0_15 : am_pY 0 (15, 4, 2, 0, 1) := ⟨fun _ => ⟨m_R_init, M_R_init, gc_R_init, (fun z => absurd z (by decide)), (fun z => absurd z (by decide)), (fun z => absurd z (by decide)), (fun z => absurd z (by decide)), (fun _ => ⟨⟨_, (am_nwm (am_tb1 22 rfl) rfl)⟩, (am_wsm (am_tb1 23 rfl) rfl), rfl, rfl⟩)⟩, (fun z => absurd z (by decide)), (fun z => absurd z (by decide)), (fun z => absurd z (by decide))⟩
theorem gy0_25 : am_pY 0 (25, 4, 3, 0, 4) := ⟨fun _ => ⟨m_A_init, M_A_init, gc_A_init, (fun z => absurd z (by decide)), (fun z => absurd z (by decide)), (fun z => absurd z (by decide)), (fun z => absurd z (by decide)), (fun _ => ⟨⟨_, (am_nwm (am_tb1 48 rfl) rfl)⟩, (am_wsm (am_tb1 49 rfl) rfl), rfl, rfl⟩)⟩, (fun z => absurd z (by decide)), (fun z => absurd z (by decide)), (fun z => absurd z (by decide))⟩
theorem gy0_30 : am_pY 0 (30, 0, 7, 1, 0) := ⟨fun _ => ⟨m_B_isBank, M_B_isBank, gc_B_isBank, (fun _ => ⟨(am_wsm (am_tb1 131 rfl) rfl), (am_wsm (am_tb1 132 rfl) rfl)⟩), (fun z => absurd z (by decide)), (fun z => absurd z (by decide)), (fun z => absurd z (by decide)), (fun z => absurd z (by decide))⟩, (fun z => absurd z (by decide)), (fun z => absurd z (by decide)), (fun z => absurd z (by decide))⟩
theorem gy0_34 : am_pY 0 (34, 0, 8, 1, 0) := ⟨fun _ => ⟨m_B_isNumber, M_B_isNumber, gc_B_isNumber, (fun _ => ⟨(am_wsm (am_tb1 134 rfl) rfl), (am_wsm (am_tb1 135 rfl) rfl)⟩), (fun z => absurd z (by decide)), (fun z => absurd z (by decide)), (fun z => absurd z (by decide)), (fun z => absurd z (by decide))⟩, (fun z => absurd z (by decide)), (fun z => absurd z (by decide)), (fun z => absurd z (by decide))⟩
theorem gy0_37 : am_pY 0 (37, 1, 9, 1, 1) := ⟨fun _ => ⟨m_R_placeOf, M_R_placeOf, gc_R_placeOf, (fun z => absurd z (by decide)), (fun _ => ⟨(am_wsm (am_tb1 137 rfl) rfl), (am_wsm (am_tb1 138 rfl) rfl), am_selm (am_wsm (am_tb1 139 rfl) rfl), _, _, rfl⟩), (fun z => absurd z (by decide)), (fun z => absurd z (by decide)), (fun z => absurd z (by decide))⟩, (fun z => absurd z (by decide)), (fun z => absurd z (by decide)), (fun z => absurd z (by decide))⟩
theorem gy0_41 : am_pY 0 (41, 1, 10, 2, 1) := ⟨fun _ => ⟨m_R_holdsAt, M_R_holdsAt, gc_R_holdsAt, (fun z => absurd z (by decide)), (fun _ => ⟨(am_wsm (am_tb1 141 rfl) rfl), (am_wsm (am_tb1 142 rfl) rfl), am_selm (am_wsm (am_tb1 143 rfl) rfl), _, _, rfl⟩), (fun z => absurd z (by decide)), (fun z => absurd z (by decide)), (fun z => absurd z (by decide))⟩, (fun z => absurd z (by decide)), (fun z => absurd z (by decide)), (fun z => absurd z (by decide))⟩
theorem gy0_45 : am_pY 0 (45, 1, 11, 1, 1) := ⟨fun _ => ⟨m_R_versionAt, M_R_versionAt, gc_R_versionAt, (fun z => absurd z (by decide)), (fun _ => ⟨(am_wsm (am_tb1 145 rfl) rfl), (am_wsm (am_tb1 146 rfl) rfl), am_selm (am_wsm (am_tb1 147 rfl) rfl), _, _, rfl⟩), (fun z => absurd z (by decide)), (fun z => absurd z (by decide)), (fun z => absurd z (by decide))⟩, (fun z => absurd z (by decide)), (fun z => absurd z (by decide)), (fun z => absurd z (by decide))⟩
theorem gy0_52 : am_pY 0 (52, 0, 12, 2, 0) := ⟨fun _ => ⟨m_B_nextVersion, M_B_nextVersion, gc_B_nextVersion, (fun _ => ⟨(am_wsm (am_tb1 149 rfl) rfl), (am_wsm (am_tb1 150 rfl) rfl)⟩), (fun z => absurd z (by decide)), (fun z => absurd z (by decide)), (fun z => absurd z (by decide)), (fun z => absurd z (by decide))⟩, (fun z => absurd z (by decide)), (fun z => absurd z (by decide)), (fun z => absurd z (by decide))⟩
theorem gy0_56 : am_pY 0 (56, 0, 13, 2, 0) := ⟨fun _ => ⟨m_B_wordOf, M_B_wordOf, gc_B_wordOf, (fun _ => ⟨(am_wsm (am_tb1 152 rfl) rfl), (am_wsm (am_tb1 153 rfl) rfl)⟩), (fun z => absurd z (by decide)), (fun z => absurd z (by decide)), (fun z => absurd z (by decide)), (fun z => absurd z (by decide))⟩, (fun z => absurd z (by decide)), (fun z => absurd z (by decide)), (fun z => absurd z (by decide))⟩
theorem gy0_59 : am_pY 0 (59, 1, 14, 3, 1) := ⟨fun _ => ⟨m_R_store, M_R_store, gc_R_store, (fun z => absurd z (by decide)), (fun _ => ⟨(am_wsm (am_tb1 155 rfl) rfl), (am_wsm (am_tb1 156 rfl) rfl), am_selm (am_wsm (am_tb1 157 rfl) rfl), _, _, rfl⟩), (fun z => absurd z (by decide)), (fun z => absurd z (by decide)), (fun z => absurd z (by decide))⟩, (fun z => absurd z (by decide)), (fun z => absurd z (by decide)), (fun z => absurd z (by decide))⟩
theorem gy0_76 : am_pY 0 (76, 1, 22, 1, 1) := ⟨fun _ => ⟨m_R_sampleAt, M_R_sampleAt, gc_R_sampleAt, (fun z => absurd z (by decide)), (fun _ => ⟨(am_wsm (am_tb1 190 rfl) rfl), (am_wsm (am_tb1 191 rfl) rfl), am_selm (am_wsm (am_tb1 192 rfl) rfl), _, _, rfl⟩), (fun z => absurd z (by decide)), (fun z => absurd z (by decide)), (fun z => absurd z (by decide))⟩, (fun z => absurd z (by decide)), (fun z => absurd z (by decide)), (fun z => absurd z (by decide))⟩
theorem gy0_80 : am_pY 0 (80, 0, 25, 2, 0) := ⟨fun _ => ⟨m_B_areTwoBanks, M_B_areTwoBanks, gc_B_areTwoBanks, (fun _ => ⟨(am_wsm (am_tb1 202 rfl) rfl), (am_wsm (am_tb1 203 rfl) rfl)⟩), (fun z => absurd z (by decide)), (fun z => absurd z (by decide)), (fun z => absurd z (by decide)), (fun z => absurd z (by decide))⟩, (fun z => absurd z (by decide)), (fun z => absurd z (by decide)), (fun z => absurd z (by decide))⟩
theorem gy0_83 : am_pY 0 (83, 0, 26, 1, 0) := ⟨fun _ => ⟨m_B_isReach, M_B_isReach, gc_B_isReach, (fun _ => ⟨(am_wsm (am_tb1 205 rfl) rfl), (am_wsm (am_tb1 206 rfl) rfl)⟩), (fun z => absurd z (by decide)), (fun z => absurd z (by decide)), (fun z => absurd z (by decide)), (fun z => absurd z (by decide))⟩, (fun z => absurd z (by decide)), (fun z => absurd z (by decide)), (fun z => absurd z (by decide))⟩
theorem gy0_86 : am_pY 0 (86, 1, 27, 3, 0) := ⟨fun _ => ⟨m_B_runExchange, M_B_runExchange, gc_B_runExchange, (fun z => absurd z (by decide)), (fun _ => ⟨(am_wsm (am_tb1 208 rfl) rfl), (am_wsm (am_tb1 210 rfl) rfl), am_selm (am_wsm (am_tbs 1 rfl) rfl), _, _, rfl⟩), (fun z => absurd z (by decide)), (fun z => absurd z (by decide)), (fun z => absurd z (by decide))⟩, (fun z => absurd z (by decide)), (fun z => absurd z (by decide)), (fun z => absurd z (by decide))⟩
theorem gy0_90 : am_pY 0 (90, 1, 57, 2, 0) := ⟨fun _ => ⟨m_B_runListing, M_B_runListing, gc_B_runListing, (fun z => absurd z (by decide)), (fun _ => ⟨(am_wsm (am_tb2 101 rfl) rfl), (am_wsm (am_tb2 103 rfl) rfl), am_selm (am_wsm (am_tbs 10 rfl) rfl), _, _, rfl⟩), (fun z => absurd z (by decide)), (fun z => absurd z (by decide)), (fun z => absurd z (by decide))⟩, (fun z => absurd z (by decide)), (fun z => absurd z (by decide)), (fun z => absurd z (by decide))⟩
theorem gy0_94 : am_pY 0 (94, 1, 60, 3, 0) := ⟨fun _ => ⟨m_B_runSettling, M_B_runSettling, gc_B_runSettling, (fun z => absurd z (by decide)), (fun _ => ⟨(am_wsm (am_tb2 113 rfl) rfl), (am_wsm (am_tb2 115 rfl) rfl), am_selm (am_wsm (am_tbs 11 rfl) rfl), _, _, rfl⟩), (fun z => absurd z (by decide)), (fun z => absurd z (by decide)), (fun z => absurd z (by decide))⟩, (fun z => absurd z (by decide)), (fun z => absurd z (by decide)), (fun z => absurd z (by decide))⟩
theorem gy0_103 : am_pY 0 (103, 1, 63, 1, 1) := ⟨fun _ => ⟨m_R_wordsSharedWith, M_R_wordsSharedWith, gc_R_wordsSharedWith, (fun z => absurd z (by decide)), (fun _ => ⟨(am_wsm (am_tb2 130 rfl) rfl), (am_wsm (am_tb2 131 rfl) rfl), am_selm (am_wsm (am_tb2 132 rfl) rfl), _, _, rfl⟩), (fun z => absurd z (by decide)), (fun z => absurd z (by decide)), (fun z => absurd z (by decide))⟩, (fun z => absurd z (by decide)), (fun z => absurd z (by decide)), (fun z => absurd z (by decide))⟩
theorem gy0_111 : am_pY 0 (111, 0, 66, 1, 0) := ⟨fun _ => ⟨m_B_isPart, M_B_isPart, gc_B_isPart, (fun _ => ⟨(am_wsm (am_tb2 142 rfl) rfl), (am_wsm (am_tb2 143 rfl) rfl)⟩), (fun z => absurd z (by decide)), (fun z => absurd z (by decide)), (fun z => absurd z (by decide)), (fun z => absurd z (by decide))⟩, (fun z => absurd z (by decide)), (fun z => absurd z (by decide)), (fun z => absurd z (by decide))⟩
theorem gy0_114 : am_pY 0 (114, 1, 67, 1, 4) := ⟨fun _ => ⟨m_A_part, M_A_part, gc_A_part, (fun z => absurd z (by decide)), (fun _ => ⟨(am_wsm (am_tb2 145 rfl) rfl), (am_wsm (am_tb2 146 rfl) rfl), am_selm (am_wsm (am_tb2 147 rfl) rfl), _, _, rfl⟩), (fun z => absurd z (by decide)), (fun z => absurd z (by decide)), (fun z => absurd z (by decide))⟩, (fun z => absurd z (by decide)), (fun z => absurd z (by decide)), (fun z => absurd z (by decide))⟩
theorem gy0_127 : am_pY 0 (127, 1, 28, 3, 4) := ⟨fun _ => ⟨m_A_find, M_A_find, gc_A_find, (fun z => absurd z (by decide)), (fun _ => ⟨(am_wsm (am_tb1 212 rfl) rfl), (am_wsm (am_tb1 213 rfl) rfl), am_selm (am_wsm (am_tb1 214 rfl) rfl), _, _, rfl⟩), (fun z => absurd z (by decide)), (fun z => absurd z (by decide)), (fun z => absurd z (by decide))⟩, (fun z => absurd z (by decide)), (fun z => absurd z (by decide)), (fun z => absurd z (by decide))⟩
theorem gy0_131 : am_pY 0 (131, 1, 43, 0, 4) := ⟨fun _ => ⟨m_A_reduce, M_A_reduce, gc_A_reduce, (fun z => absurd z (by decide)), (fun _ => ⟨(am_wsm (am_tb2 32 rfl) rfl), (am_wsm (am_tb2 33 rfl) rfl), am_selm (am_wsm (am_tb2 34 rfl) rfl), _, _, rfl⟩), (fun z => absurd z (by decide)), (fun z => absurd z (by decide)), (fun z => absurd z (by decide))⟩, (fun z => absurd z (by decide)), (fun z => absurd z (by decide)), (fun z => absurd z (by decide))⟩
theorem gy0_141 : am_pY 0 (141, 1, 49, 2, 1) := ⟨fun _ => ⟨m_R_becomeZerosAmong, M_R_becomeZerosAmong, gc_R_becomeZerosAmong, (fun z => absurd z (by decide)), (fun _ => ⟨(am_wsm (am_tb2 65 rfl) rfl), (am_wsm (am_tb2 66 rfl) rfl), am_selm (am_wsm (am_tb2 67 rfl) rfl), _, _, rfl⟩), (fun z => absurd z (by decide)), (fun z => absurd z (by decide)), (fun z => absurd z (by decide))⟩, (fun z => absurd z (by decide)), (fun z => absurd z (by decide)), (fun z => absurd z (by decide))⟩
theorem gy0_145 : am_pY 0 (145, 1, 51, 1, 4) := ⟨fun _ => ⟨m_A_fitsSamples, M_A_fitsSamples, gc_A_fitsSamples, (fun z => absurd z (by decide)), (fun _ => ⟨(am_wsm (am_tb2 74 rfl) rfl), (am_wsm (am_tb2 75 rfl) rfl), am_selm (am_wsm (am_tb2 76 rfl) rfl), _, _, rfl⟩), (fun z => absurd z (by decide)), (fun z => absurd z (by decide)), (fun z => absurd z (by decide))⟩, (fun z => absurd z (by decide)), (fun z => absurd z (by decide)), (fun z => absurd z (by decide))⟩
theorem gy0_148 : am_pY 0 (148, 1, 52, 2, 0) := ⟨fun _ => ⟨m_B_deliverParcels, M_B_deliverParcels, gc_B_deliverParcels, (fun z => absurd z (by decide)), (fun _ => ⟨(am_wsm (am_tb2 80 rfl) rfl), (am_wsm (am_tb2 82 rfl) rfl), am_selm (am_wsm (am_tbs 9 rfl) rfl), _, _, rfl⟩), (fun z => absurd z (by decide)), (fun z => absurd z (by decide)), (fun z => absurd z (by decide))⟩, (fun z => absurd z (by decide)), (fun z => absurd z (by decide)), (fun z => absurd z (by decide))⟩
theorem gy0_151 : am_pY 0 (151, 1, 58, 1, 1) := ⟨fun _ => ⟨m_R_becomeAllOf, M_R_becomeAllOf, gc_R_becomeAllOf, (fun z => absurd z (by decide)), (fun _ => ⟨(am_wsm (am_tb2 105 rfl) rfl), (am_wsm (am_tb2 106 rfl) rfl), am_selm (am_wsm (am_tb2 107 rfl) rfl), _, _, rfl⟩), (fun z => absurd z (by decide)), (fun z => absurd z (by decide)), (fun z => absurd z (by decide))⟩, (fun z => absurd z (by decide)), (fun z => absurd z (by decide)), (fun z => absurd z (by decide))⟩
theorem gy0_155 : am_pY 0 (155, 1, 53, 1, 1) := ⟨fun _ => ⟨m_R_keepNewsFor, M_R_keepNewsFor, gc_R_keepNewsFor, (fun z => absurd z (by decide)), (fun _ => ⟨(am_wsm (am_tb2 84 rfl) rfl), (am_wsm (am_tb2 85 rfl) rfl), am_selm (am_wsm (am_tb2 86 rfl) rfl), _, _, rfl⟩), (fun z => absurd z (by decide)), (fun z => absurd z (by decide)), (fun z => absurd z (by decide))⟩, (fun z => absurd z (by decide)), (fun z => absurd z (by decide)), (fun z => absurd z (by decide))⟩
theorem gy0_158 : am_pY 0 (158, 1, 54, 1, 1) := ⟨fun _ => ⟨m_R_countWith, M_R_countWith, gc_R_countWith, (fun z => absurd z (by decide)), (fun _ => ⟨(am_wsm (am_tb2 88 rfl) rfl), (am_wsm (am_tb2 89 rfl) rfl), am_selm (am_wsm (am_tb2 90 rfl) rfl), _, _, rfl⟩), (fun z => absurd z (by decide)), (fun z => absurd z (by decide)), (fun z => absurd z (by decide))⟩, (fun z => absurd z (by decide)), (fun z => absurd z (by decide)), (fun z => absurd z (by decide))⟩
theorem gy0_161 : am_pY 0 (161, 1, 55, 1, 1) := ⟨fun _ => ⟨m_R_storeAll, M_R_storeAll, gc_R_storeAll, (fun z => absurd z (by decide)), (fun _ => ⟨(am_wsm (am_tb2 92 rfl) rfl), (am_wsm (am_tb2 93 rfl) rfl), am_selm (am_wsm (am_tb2 94 rfl) rfl), _, _, rfl⟩), (fun z => absurd z (by decide)), (fun z => absurd z (by decide)), (fun z => absurd z (by decide))⟩, (fun z => absurd z (by decide)), (fun z => absurd z (by decide)), (fun z => absurd z (by decide))⟩
theorem gy0_164 : am_pY 0 (164, 6, 0, 2, 0) := ⟨(fun z => absurd z (by decide)), (fun z => absurd z (by decide)), fun _ => ⟨(am_wsm (am_tb2 117 rfl) rfl), (am_wsm (am_tb2 59 rfl) rfl), (am_wsm (am_tb1 10 rfl) rfl), (am_wsm (am_tb2 60 rfl) rfl)⟩, (fun z => absurd z (by decide))⟩
theorem gy0 : ∀ q ∈ am_Yt0, am_pY 0 q := List.forall_mem_cons.mpr ⟨gy0_3, List.forall_mem_cons.mpr ⟨gy0_15, List.forall_mem_cons.mpr ⟨gy0_25, List.forall_mem_cons.mpr ⟨gy0_30, List.forall_mem_cons.mpr ⟨gy0_34, List.forall_mem_cons.mpr ⟨gy0_37, List.forall_mem_cons.mpr ⟨gy0_41, List.forall_mem_cons.mpr ⟨gy0_45, List.forall_mem_cons.mpr ⟨gy0_52, List.forall_mem_cons.mpr ⟨gy0_56, List.forall_mem_cons.mpr ⟨gy0_59, List.forall_mem_cons.mpr ⟨gy0_76, List.forall_mem_cons.mpr ⟨gy0_80, List.forall_mem_cons.mpr ⟨gy0_83, List.forall_mem_cons.mpr ⟨gy0_86, List.forall_mem_cons.mpr ⟨gy0_90, List.forall_mem_cons.mpr ⟨gy0_94, List.forall_mem_cons.mpr ⟨gy0_103, List.forall_mem_cons.mpr ⟨gy0_111, List.forall_mem_cons.mpr ⟨gy0_114, List.forall_mem_cons.mpr ⟨gy0_127, List.forall_mem_cons.mpr ⟨gy0_131, List.forall_mem_cons.mpr ⟨gy0_141, List.forall_mem_cons.mpr ⟨gy0_145, List.forall_mem_cons.mpr ⟨gy0_148, List.forall_mem_cons.mpr ⟨gy0_151, List.forall_mem_cons.mpr ⟨gy0_155, List.forall_mem_cons.mpr ⟨gy0_158, List.forall_mem_cons.mpr ⟨gy0_161, List.forall_mem_cons.mpr ⟨gy0_164, fun _ h => absurd h List.not_mem_nil⟩⟩⟩⟩⟩⟩⟩⟩⟩⟩⟩⟩⟩⟩⟩⟩⟩⟩⟩⟩⟩⟩⟩⟩⟩⟩⟩⟩⟩⟩
theorem gy1_3 : am_pY 1 (3, 5, 0, 0, 0) := ⟨(fun z => absurd z (by decide)), fun _ => ⟨(am_wsm (am_tb1 25 rfl) rfl), (am_wsm (am_tb1 17 rfl) rfl), (am_wsm (am_tb1 18 rfl) rfl)⟩, (fun z => absurd z (by decide)), (fun z => absurd z (by decide))⟩
theorem gy1_26 : am_pY 1 (26, 1, 9, 1, 1) := ⟨fun _ => ⟨m_R_placeOf, M_R_placeOf, gc_R_placeOf, (fun z => absurd z (by decide)), (fun _ => ⟨(am_wsm (am_tb1 159 rfl) rfl), (am_wsm (am_tb1 138 rfl) rfl), am_selm (am_wsm (am_tb1 139 rfl) rfl), _, _, rfl⟩), (fun z => absurd z (by decide)), (fun z => absurd z (by decide)), (fun z => absurd z (by decide))⟩, (fun z => absurd z (by decide)), (fun z => absurd z (by decide)), (fun z => absurd z (by decide))⟩
theorem gy1_30 : am_pY 1 (30, 1, 10, 2, 1) := ⟨fun _ => ⟨m_R_holdsAt, M_R_holdsAt, gc_R_holdsAt, (fun z => absurd z (by decide)), (fun _ => ⟨(am_wsm (am_tb1 160 rfl) rfl), (am_wsm (am_tb1 142 rfl) rfl), am_selm (am_wsm (am_tb1 143 rfl) rfl), _, _, rfl⟩), (fun z => absurd z (by decide)), (fun z => absurd z (by decide)), (fun z => absurd z (by decide))⟩, (fun z => absurd z (by decide)), (fun z => absurd z (by decide)), (fun z => absurd z (by decide))⟩
theorem gy1_34 : am_pY 1 (34, 1, 15, 3, 1) := ⟨fun _ => ⟨m_R_copyRecord, M_R_copyRecord, gc_R_copyRecord, (fun z => absurd z (by decide)), (fun _ => ⟨(am_wsm (am_tb1 161 rfl) rfl), (am_wsm (am_tb1 163 rfl) rfl), am_selm (am_wsm (am_tbs 0 rfl) rfl), _, _, rfl⟩), (fun z => absurd z (by decide)), (fun z => absurd z (by decide)), (fun z => absurd z (by decide))⟩, (fun z => absurd z (by decide)), (fun z => absurd z (by decide)), (fun z => absurd z (by decide))⟩
theorem gy1_38 : am_pY 1 (38, 0, 23, 2, 0) := ⟨fun _ => ⟨m_F_times, M_F_times, gc_F_times, (fun _ => ⟨(am_wsm (am_tb1 194 rfl) rfl), (am_wsm (am_tb1 195 rfl) rfl)⟩), (fun z => absurd z (by decide)), (fun z => absurd z (by decide)), (fun z => absurd z (by decide)), (fun z => absurd z (by decide))⟩, (fun z => absurd z (by decide)), (fun z => absurd z (by decide)), (fun z => absurd z (by decide))⟩
theorem gy1_44 : am_pY 1 (44, 1, 50, 1, 2) := ⟨fun _ => ⟨m_Y_valueAt, M_Y_valueAt, gc_Y_valueAt, (fun z => absurd z (by decide)), (fun _ => ⟨(am_wsm (am_tb2 69 rfl) rfl), (am_wsm (am_tb2 70 rfl) rfl), am_selm (am_wsm (am_tb2 71 rfl) rfl), _, _, rfl⟩), (fun z => absurd z (by decide)), (fun z => absurd z (by decide)), (fun z => absurd z (by decide))⟩, (fun z => absurd z (by decide)), (fun z => absurd z (by decide)), (fun z => absurd z (by decide))⟩
theorem gy1_50 : am_pY 1 (50, 1, 14, 3, 1) := ⟨fun _ => ⟨m_R_store, M_R_store, gc_R_store, (fun z => absurd z (by decide)), (fun _ => ⟨(am_wsm (am_tb2 96 rfl) rfl), (am_wsm (am_tb1 156 rfl) rfl), am_selm (am_wsm (am_tb1 157 rfl) rfl), _, _, rfl⟩), (fun z => absurd z (by decide)), (fun z => absurd z (by decide)), (fun z => absurd z (by decide))⟩, (fun z => absurd z (by decide)), (fun z => absurd z (by decide)), (fun z => absurd z (by decide))⟩
theorem gy1 : ∀ q ∈ am_Yt1, am_pY 1 q := List.forall_mem_cons.mpr ⟨gy1_3, List.forall_mem_cons.mpr ⟨gy1_26, List.forall_mem_cons.mpr ⟨gy1_30, List.forall_mem_cons.mpr ⟨gy1_34, List.forall_mem_cons.mpr ⟨gy1_38, List.forall_mem_cons.mpr ⟨gy1_44, List.forall_mem_cons.mpr ⟨gy1_50, fun _ h => absurd h List.not_mem_nil⟩⟩⟩⟩⟩⟩⟩
theorem gy2_3 : am_pY 2 (3, 5, 0, 0, 0) := ⟨(fun z => absurd z (by decide)), fun _ => ⟨(am_wsm (am_tb1 57 rfl) rfl), (am_wsm (am_tb1 17 rfl) rfl), (am_wsm (am_tb1 18 rfl) rfl)⟩, (fun z => absurd z (by decide)), (fun z => absurd z (by decide))⟩
theorem gy2_15 : am_pY 2 (15, 7, 0, 5, 0) := ⟨(fun z => absurd z (by decide)), (fun z => absurd z (by decide)), (fun z => absurd z (by decide)), fun _ => ⟨(am_wsm (am_tb2 40 rfl) rfl), (am_wsm (am_tb2 42 rfl) rfl), (am_wsm (am_tb2 41 rfl) rfl), (am_wsm (am_tb1 9 rfl) rfl)⟩⟩
theorem gy2_25 : am_pY 2 (25, 1, 42, 1, 3) := ⟨fun _ => ⟨m_Q_unknown, M_Q_unknown, gc_Q_unknown, (fun z => absurd z (by decide)), (fun _ => ⟨(am_wsm (am_tb2 28 rfl) rfl), (am_wsm (am_tb2 29 rfl) rfl), am_selm (am_wsm (am_tb2 30 rfl) rfl), _, _, rfl⟩), (fun z => absurd z (by decide)), (fun z => absurd z (by decide)), (fun z => absurd z (by decide))⟩, (fun z => absurd z (by decide)), (fun z => absurd z (by decide)), (fun z => absurd z (by decide))⟩
theorem gy2_31 : am_pY 2 (31, 0, 23, 2, 0) := ⟨fun _ => ⟨m_F_times, M_F_times, gc_F_times, (fun _ => ⟨(am_wsm (am_tb2 48 rfl) rfl), (am_wsm (am_tb1 195 rfl) rfl)⟩), (fun z => absurd z (by decide)), (fun z => absurd z (by decide)), (fun z => absurd z (by decide)), (fun z => absurd z (by decide))⟩, (fun z => absurd z (by decide)), (fun z => absurd z (by decide)), (fun z => absurd z (by decide))⟩
theorem gy2_37 : am_pY 2 (37, 0, 32, 2, 0) := ⟨fun _ => ⟨m_F_plus, M_F_plus, gc_F_plus, (fun _ => ⟨(am_wsm (am_tb2 73 rfl) rfl), (am_wsm (am_tb1 231 rfl) rfl)⟩), (fun z => absurd z (by decide)), (fun z => absurd z (by decide)), (fun z => absurd z (by decide)), (fun z => absurd z (by decide))⟩, (fun z => absurd z (by decide)), (fun z => absurd z (by decide)), (fun z => absurd z (by decide))⟩
theorem gy2_40 : am_pY 2 (40, 0, 37, 1, 0) := ⟨fun _ => ⟨m_F_inverse, M_F_inverse, gc_F_inverse, (fun _ => ⟨(am_wsm (am_tb2 47 rfl) rfl), (am_wsm (am_tb2 9 rfl) rfl)⟩), (fun z => absurd z (by decide)), (fun z => absurd z (by decide)), (fun z => absurd z (by decide)), (fun z => absurd z (by decide))⟩, (fun z => absurd z (by decide)), (fun z => absurd z (by decide)), (fun z => absurd z (by decide))⟩
theorem gy2_44 : am_pY 2 (44, 1, 47, 1, 2) := ⟨fun _ => ⟨m_Y_divideInPlace, M_Y_divideInPlace, gc_Y_divideInPlace, (fun z => absurd z (by decide)), (fun _ => ⟨(am_wsm (am_tb2 53 rfl) rfl), (am_wsm (am_tb2 55 rfl) rfl), am_selm (am_wsm (am_tbs 8 rfl) rfl), _, _, rfl⟩), (fun z => absurd z (by decide)), (fun z => absurd z (by decide)), (fun z => absurd z (by decide))⟩, (fun z => absurd z (by decide)), (fun z => absurd z (by decide)), (fun z => absurd z (by decide))⟩
theorem gy2_48 : am_pY 2 (48, 6, 0, 2, 0) := ⟨(fun z => absurd z (by decide)), (fun z => absurd z (by decide)), fun _ => ⟨(am_wsm (am_tb2 58 rfl) rfl), (am_wsm (am_tb2 59 rfl) rfl), (am_wsm (am_tb1 10 rfl) rfl), (am_wsm (am_tb2 60 rfl) rfl)⟩, (fun z => absurd z (by decide))⟩
theorem gy2_54 : am_pY 2 (54, 0, 31, 2, 0) := ⟨fun _ => ⟨m_F_minus, M_F_minus, gc_F_minus, (fun _ => ⟨(am_wsm (am_tb2 57 rfl) rfl), (am_wsm (am_tb1 228 rfl) rfl)⟩), (fun z => absurd z (by decide)), (fun z => absurd z (by decide)), (fun z => absurd z (by decide)), (fun z => absurd z (by decide))⟩, (fun z => absurd z (by decide)), (fun z => absurd z (by decide)), (fun z => absurd z (by decide))⟩
theorem gy2 : ∀ q ∈ am_Yt2, am_pY 2 q := List.forall_mem_cons.mpr ⟨gy2_3, List.forall_mem_cons.mpr ⟨gy2_15, List.forall_mem_cons.mpr ⟨gy2_25, List.forall_mem_cons.mpr ⟨gy2_31, List.forall_mem_cons.mpr ⟨gy2_37, List.forall_mem_cons.mpr ⟨gy2_40, List.forall_mem_cons.mpr ⟨gy2_44, List.forall_mem_cons.mpr ⟨gy2_48, List.forall_mem_cons.mpr ⟨gy2_54, fun _ h => absurd h List.not_mem_nil⟩⟩⟩⟩⟩⟩⟩⟩⟩
theorem gy3_3 : am_pY 3 (3, 5, 0, 0, 0) := ⟨(fun z => absurd z (by decide)), fun _ => ⟨(am_wsm (am_tb1 74 rfl) rfl), (am_wsm (am_tb1 17 rfl) rfl), (am_wsm (am_tb1 18 rfl) rfl)⟩, (fun z => absurd z (by decide)), (fun z => absurd z (by decide))⟩
theorem gy3_20 : am_pY 3 (20, 0, 23, 2, 0) := ⟨fun _ => ⟨m_F_times, M_F_times, gc_F_times, (fun _ => ⟨(am_wsm (am_tb1 226 rfl) rfl), (am_wsm (am_tb1 195 rfl) rfl)⟩), (fun z => absurd z (by decide)), (fun z => absurd z (by decide)), (fun z => absurd z (by decide)), (fun z => absurd z (by decide))⟩, (fun z => absurd z (by decide)), (fun z => absurd z (by decide)), (fun z => absurd z (by decide))⟩
theorem gy3_26 : am_pY 3 (26, 0, 31, 2, 0) := ⟨fun _ => ⟨m_F_minus, M_F_minus, gc_F_minus, (fun _ => ⟨(am_wsm (am_tb1 227 rfl) rfl), (am_wsm (am_tb1 228 rfl) rfl)⟩), (fun z => absurd z (by decide)), (fun z => absurd z (by decide)), (fun z => absurd z (by decide)), (fun z => absurd z (by decide))⟩, (fun z => absurd z (by decide)), (fun z => absurd z (by decide)), (fun z => absurd z (by decide))⟩
theorem gy3_29 : am_pY 3 (29, 0, 32, 2, 0) := ⟨fun _ => ⟨m_F_plus, M_F_plus, gc_F_plus, (fun _ => ⟨(am_wsm (am_tb1 230 rfl) rfl), (am_wsm (am_tb1 231 rfl) rfl)⟩), (fun z => absurd z (by decide)), (fun z => absurd z (by decide)), (fun z => absurd z (by decide)), (fun z => absurd z (by decide))⟩, (fun z => absurd z (by decide)), (fun z => absurd z (by decide)), (fun z => absurd z (by decide))⟩
theorem gy3_36 : am_pY 3 (36, 0, 34, 2, 0) := ⟨fun _ => ⟨m_J_fill, M_J_fill, gc_J_fill, (fun _ => ⟨(am_wsm (am_tb1 237 rfl) rfl), (am_wsm (am_tb1 238 rfl) rfl)⟩), (fun z => absurd z (by decide)), (fun z => absurd z (by decide)), (fun z => absurd z (by decide)), (fun z => absurd z (by decide))⟩, (fun z => absurd z (by decide)), (fun z => absurd z (by decide)), (fun z => absurd z (by decide))⟩
theorem gy3_42 : am_pY 3 (42, 1, 35, 2, 3) := ⟨fun _ => ⟨m_Q_rowWithout0, M_Q_rowWithout0, gc_Q_rowWithout0, (fun z => absurd z (by decide)), (fun _ => ⟨(am_wsm (am_tb2 0 rfl) rfl), (am_wsm (am_tb2 2 rfl) rfl), am_selm (am_wsm (am_tbs 3 rfl) rfl), _, _, rfl⟩), (fun z => absurd z (by decide)), (fun z => absurd z (by decide)), (fun z => absurd z (by decide))⟩, (fun z => absurd z (by decide)), (fun z => absurd z (by decide)), (fun z => absurd z (by decide))⟩
theorem gy3_46 : am_pY 3 (46, 1, 36, 2, 3) := ⟨fun _ => ⟨m_Q_swapRows, M_Q_swapRows, gc_Q_swapRows, (fun z => absurd z (by decide)), (fun _ => ⟨(am_wsm (am_tb2 4 rfl) rfl), (am_wsm (am_tb2 6 rfl) rfl), am_selm (am_wsm (am_tbs 4 rfl) rfl), _, _, rfl⟩), (fun z => absurd z (by decide)), (fun z => absurd z (by decide)), (fun z => absurd z (by decide))⟩, (fun z => absurd z (by decide)), (fun z => absurd z (by decide)), (fun z => absurd z (by decide))⟩
theorem gy3_50 : am_pY 3 (50, 0, 37, 1, 0) := ⟨fun _ => ⟨m_F_inverse, M_F_inverse, gc_F_inverse, (fun _ => ⟨(am_wsm (am_tb2 8 rfl) rfl), (am_wsm (am_tb2 9 rfl) rfl)⟩), (fun z => absurd z (by decide)), (fun z => absurd z (by decide)), (fun z => absurd z (by decide)), (fun z => absurd z (by decide))⟩, (fun z => absurd z (by decide)), (fun z => absurd z (by decide)), (fun z => absurd z (by decide))⟩
theorem gy3_54 : am_pY 3 (54, 1, 38, 3, 3) := ⟨fun _ => ⟨m_Q_scaleRow, M_Q_scaleRow, gc_Q_scaleRow, (fun z => absurd z (by decide)), (fun _ => ⟨(am_wsm (am_tb2 12 rfl) rfl), (am_wsm (am_tb2 14 rfl) rfl), am_selm (am_wsm (am_tbs 5 rfl) rfl), _, _, rfl⟩), (fun z => absurd z (by decide)), (fun z => absurd z (by decide)), (fun z => absurd z (by decide))⟩, (fun z => absurd z (by decide)), (fun z => absurd z (by decide)), (fun z => absurd z (by decide))⟩
theorem gy3_58 : am_pY 3 (58, 1, 39, 2, 3) := ⟨fun _ => ⟨m_Q_clearColumn, M_Q_clearColumn, gc_Q_clearColumn, (fun z => absurd z (by decide)), (fun _ => ⟨(am_wsm (am_tb2 16 rfl) rfl), (am_wsm (am_tb2 18 rfl) rfl), am_selm (am_wsm (am_tbs 6 rfl) rfl), _, _, rfl⟩), (fun z => absurd z (by decide)), (fun z => absurd z (by decide)), (fun z => absurd z (by decide))⟩, (fun z => absurd z (by decide)), (fun z => absurd z (by decide)), (fun z => absurd z (by decide))⟩
theorem gy3_61 : am_pY 3 (61, 1, 40, 1, 3) := ⟨fun _ => ⟨m_Q_rightSidesAre0, M_Q_rightSidesAre0, gc_Q_rightSidesAre0, (fun z => absurd z (by decide)), (fun _ => ⟨(am_wsm (am_tb2 20 rfl) rfl), (am_wsm (am_tb2 22 rfl) rfl), am_selm (am_wsm (am_tbs 7 rfl) rfl), _, _, rfl⟩), (fun z => absurd z (by decide)), (fun z => absurd z (by decide)), (fun z => absurd z (by decide))⟩, (fun z => absurd z (by decide)), (fun z => absurd z (by decide)), (fun z => absurd z (by decide))⟩
theorem gy3 : ∀ q ∈ am_Yt3, am_pY 3 q := List.forall_mem_cons.mpr ⟨gy3_3, List.forall_mem_cons.mpr ⟨gy3_20, List.forall_mem_cons.mpr ⟨gy3_26, List.forall_mem_cons.mpr ⟨gy3_29, List.forall_mem_cons.mpr ⟨gy3_36, List.forall_mem_cons.mpr ⟨gy3_42, List.forall_mem_cons.mpr ⟨gy3_46, List.forall_mem_cons.mpr ⟨gy3_50, List.forall_mem_cons.mpr ⟨gy3_54, List.forall_mem_cons.mpr ⟨gy3_58, List.forall_mem_cons.mpr ⟨gy3_61, fun _ h => absurd h List.not_mem_nil⟩⟩⟩⟩⟩⟩⟩⟩⟩⟩⟩
theorem gy4_3 : am_pY 4 (3, 5, 0, 0, 0) := ⟨(fun z => absurd z (by decide)), fun _ => ⟨(am_wsm (am_tb1 51 rfl) rfl), (am_wsm (am_tb1 17 rfl) rfl), (am_wsm (am_tb1 18 rfl) rfl)⟩, (fun z => absurd z (by decide)), (fun z => absurd z (by decide))⟩
theorem gy4_11 : am_pY 4 (11, 3, 4, 0, 2) := ⟨fun _ => ⟨m_Y_init, M_Y_init, gc_Y_init, (fun z => absurd z (by decide)), (fun z => absurd z (by decide)), (fun z => absurd z (by decide)), (fun _ => ⟨(am_wsm (am_tb1 54 rfl) rfl), (am_wsm (am_tb1 55 rfl) rfl), rfl, rfl⟩), (fun z => absurd z (by decide))⟩, (fun z => absurd z (by decide)), (fun z => absurd z (by decide)), (fun z => absurd z (by decide))⟩
theorem gy4_29 : am_pY 4 (29, 4, 5, 0, 3) := ⟨fun _ => ⟨m_Q_init, M_Q_init, gc_Q_init, (fun z => absurd z (by decide)), (fun z => absurd z (by decide)), (fun z => absurd z (by decide)), (fun z => absurd z (by decide)), (fun _ => ⟨⟨_, (am_nwm (am_tb1 71 rfl) rfl)⟩, (am_wsm (am_tb1 72 rfl) rfl), rfl, rfl⟩)⟩, (fun z => absurd z (by decide)), (fun z => absurd z (by decide)), (fun z => absurd z (by decide))⟩
theorem gy4_47 : am_pY 4 (47, 1, 29, 3, 4) := ⟨fun _ => ⟨m_A_takeSamples, M_A_takeSamples, gc_A_takeSamples, (fun z => absurd z (by decide)), (fun _ => ⟨(am_wsm (am_tb1 216 rfl) rfl), (am_wsm (am_tb1 218 rfl) rfl), am_selm (am_wsm (am_tbs 2 rfl) rfl), _, _, rfl⟩), (fun z => absurd z (by decide)), (fun z => absurd z (by decide)), (fun z => absurd z (by decide))⟩, (fun z => absurd z (by decide)), (fun z => absurd z (by decide)), (fun z => absurd z (by decide))⟩
theorem gy4_53 : am_pY 4 (53, 1, 30, 6, 3) := ⟨fun _ => ⟨m_Q_setRow, M_Q_setRow, gc_Q_setRow, (fun z => absurd z (by decide)), (fun _ => ⟨(am_wsm (am_tb1 222 rfl) rfl), (am_wsm (am_tb1 223 rfl) rfl), am_selm (am_wsm (am_tb1 224 rfl) rfl), _, _, rfl⟩), (fun z => absurd z (by decide)), (fun z => absurd z (by decide)), (fun z => absurd z (by decide))⟩, (fun z => absurd z (by decide)), (fun z => absurd z (by decide)), (fun z => absurd z (by decide))⟩
theorem gy4_57 : am_pY 4 (57, 1, 33, 1, 3) := ⟨fun _ => ⟨m_Q_solve, M_Q_solve, gc_Q_solve, (fun z => absurd z (by decide)), (fun _ => ⟨(am_wsm (am_tb1 233 rfl) rfl), (am_wsm (am_tb1 234 rfl) rfl), am_selm (am_wsm (am_tb1 235 rfl) rfl), _, _, rfl⟩), (fun z => absurd z (by decide)), (fun z => absurd z (by decide)), (fun z => absurd z (by decide))⟩, (fun z => absurd z (by decide)), (fun z => absurd z (by decide)), (fun z => absurd z (by decide))⟩
theorem gy4_61 : am_pY 4 (61, 1, 41, 3, 2) := ⟨fun _ => ⟨m_Y_becomeSolution, M_Y_becomeSolution, gc_Y_becomeSolution, (fun z => absurd z (by decide)), (fun _ => ⟨(am_wsm (am_tb2 24 rfl) rfl), (am_wsm (am_tb2 25 rfl) rfl), am_selm (am_wsm (am_tb2 26 rfl) rfl), _, _, rfl⟩), (fun z => absurd z (by decide)), (fun z => absurd z (by decide)), (fun z => absurd z (by decide))⟩, (fun z => absurd z (by decide)), (fun z => absurd z (by decide)), (fun z => absurd z (by decide))⟩
theorem gy4_65 : am_pY 4 (65, 1, 44, 1, 2) := ⟨fun _ => ⟨m_Y_become, M_Y_become, gc_Y_become, (fun z => absurd z (by decide)), (fun _ => ⟨(am_wsm (am_tb2 36 rfl) rfl), (am_wsm (am_tb2 37 rfl) rfl), am_selm (am_wsm (am_tb2 38 rfl) rfl), _, _, rfl⟩), (fun z => absurd z (by decide)), (fun z => absurd z (by decide)), (fun z => absurd z (by decide))⟩, (fun z => absurd z (by decide)), (fun z => absurd z (by decide)), (fun z => absurd z (by decide))⟩
theorem gy4_72 : am_pY 4 (72, 1, 45, 0, 2) := ⟨fun _ => ⟨m_Y_makeHighestOne, M_Y_makeHighestOne, gc_Y_makeHighestOne, (fun z => absurd z (by decide)), (fun _ => ⟨(am_wsm (am_tb2 43 rfl) rfl), (am_wsm (am_tb2 44 rfl) rfl), am_selm (am_wsm (am_tb2 45 rfl) rfl), _, _, rfl⟩), (fun z => absurd z (by decide)), (fun z => absurd z (by decide)), (fun z => absurd z (by decide))⟩, (fun z => absurd z (by decide)), (fun z => absurd z (by decide)), (fun z => absurd z (by decide))⟩
theorem gy4_75 : am_pY 4 (75, 1, 46, 1, 2) := ⟨fun _ => ⟨m_Y_becomeRemainder, M_Y_becomeRemainder, gc_Y_becomeRemainder, (fun z => absurd z (by decide)), (fun _ => ⟨(am_wsm (am_tb2 49 rfl) rfl), (am_wsm (am_tb2 50 rfl) rfl), am_selm (am_wsm (am_tb2 51 rfl) rfl), _, _, rfl⟩), (fun z => absurd z (by decide)), (fun z => absurd z (by decide)), (fun z => absurd z (by decide))⟩, (fun z => absurd z (by decide)), (fun z => absurd z (by decide)), (fun z => absurd z (by decide))⟩
theorem gy4_78 : am_pY 4 (78, 1, 48, 1, 2) := ⟨fun _ => ⟨m_Y_becomeQuotient, M_Y_becomeQuotient, gc_Y_becomeQuotient, (fun z => absurd z (by decide)), (fun _ => ⟨(am_wsm (am_tb2 61 rfl) rfl), (am_wsm (am_tb2 62 rfl) rfl), am_selm (am_wsm (am_tb2 63 rfl) rfl), _, _, rfl⟩), (fun z => absurd z (by decide)), (fun z => absurd z (by decide)), (fun z => absurd z (by decide))⟩, (fun z => absurd z (by decide)), (fun z => absurd z (by decide)), (fun z => absurd z (by decide))⟩
theorem gy4_81 : am_pY 4 (81, 1, 50, 1, 2) := ⟨fun _ => ⟨m_Y_valueAt, M_Y_valueAt, gc_Y_valueAt, (fun z => absurd z (by decide)), (fun _ => ⟨(am_wsm (am_tb2 78 rfl) rfl), (am_wsm (am_tb2 70 rfl) rfl), am_selm (am_wsm (am_tb2 71 rfl) rfl), _, _, rfl⟩), (fun z => absurd z (by decide)), (fun z => absurd z (by decide)), (fun z => absurd z (by decide))⟩, (fun z => absurd z (by decide)), (fun z => absurd z (by decide)), (fun z => absurd z (by decide))⟩
theorem gy4_85 : am_pY 4 (85, 0, 23, 2, 0) := ⟨fun _ => ⟨m_F_times, M_F_times, gc_F_times, (fun _ => ⟨(am_wsm (am_tb2 79 rfl) rfl), (am_wsm (am_tb1 195 rfl) rfl)⟩), (fun z => absurd z (by decide)), (fun z => absurd z (by decide)), (fun z => absurd z (by decide)), (fun z => absurd z (by decide))⟩, (fun z => absurd z (by decide)), (fun z => absurd z (by decide)), (fun z => absurd z (by decide))⟩
theorem gy4_91 : am_pY 4 (91, 1, 22, 1, 1) := ⟨fun _ => ⟨m_R_sampleAt, M_R_sampleAt, gc_R_sampleAt, (fun z => absurd z (by decide)), (fun _ => ⟨(am_wsm (am_tb1 221 rfl) rfl), (am_wsm (am_tb1 191 rfl) rfl), am_selm (am_wsm (am_tb1 192 rfl) rfl), _, _, rfl⟩), (fun z => absurd z (by decide)), (fun z => absurd z (by decide)), (fun z => absurd z (by decide))⟩, (fun z => absurd z (by decide)), (fun z => absurd z (by decide)), (fun z => absurd z (by decide))⟩
theorem gy4 : ∀ q ∈ am_Yt4, am_pY 4 q := List.forall_mem_cons.mpr ⟨gy4_3, List.forall_mem_cons.mpr ⟨gy4_11, List.forall_mem_cons.mpr ⟨gy4_29, List.forall_mem_cons.mpr ⟨gy4_47, List.forall_mem_cons.mpr ⟨gy4_53, List.forall_mem_cons.mpr ⟨gy4_57, List.forall_mem_cons.mpr ⟨gy4_61, List.forall_mem_cons.mpr ⟨gy4_65, List.forall_mem_cons.mpr ⟨gy4_72, List.forall_mem_cons.mpr ⟨gy4_75, List.forall_mem_cons.mpr ⟨gy4_78, List.forall_mem_cons.mpr ⟨gy4_81, List.forall_mem_cons.mpr ⟨gy4_85, List.forall_mem_cons.mpr ⟨gy4_91, fun _ h => absurd h List.not_mem_nil⟩⟩⟩⟩⟩⟩⟩⟩⟩⟩⟩⟩⟩⟩
theorem gy5_1 : am_pY 5 (1, 5, 0, 0, 0) := ⟨(fun z => absurd z (by decide)), fun _ => ⟨(am_wsm (am_tb2 158 rfl) rfl), (am_wsm (am_tb1 17 rfl) rfl), (am_wsm (am_tb1 18 rfl) rfl)⟩, (fun z => absurd z (by decide)), (fun z => absurd z (by decide))⟩
theorem gy5_69 : am_pY 5 (69, 0, 71, 1, 5) := ⟨fun _ => ⟨m_M_isBank, M_M_isBank, gc_M_isBank, (fun _ => ⟨(am_wsm (am_tb3 5 rfl) rfl), (am_wsm (am_tb3 6 rfl) rfl)⟩), (fun z => absurd z (by decide)), (fun z => absurd z (by decide)), (fun z => absurd z (by decide)), (fun z => absurd z (by decide))⟩, (fun z => absurd z (by decide)), (fun z => absurd z (by decide)), (fun z => absurd z (by decide))⟩
theorem gy5_73 : am_pY 5 (73, 0, 72, 1, 5) := ⟨fun _ => ⟨m_M_isNumber, M_M_isNumber, gc_M_isNumber, (fun _ => ⟨(am_wsm (am_tb3 8 rfl) rfl), (am_wsm (am_tb3 9 rfl) rfl)⟩), (fun z => absurd z (by decide)), (fun z => absurd z (by decide)), (fun z => absurd z (by decide)), (fun z => absurd z (by decide))⟩, (fun z => absurd z (by decide)), (fun z => absurd z (by decide)), (fun z => absurd z (by decide))⟩
theorem gy5_76 : am_pY 5 (76, 1, 73, 2, 5) := ⟨fun _ => ⟨m_M_find, M_M_find, gc_M_find, (fun z => absurd z (by decide)), (fun _ => ⟨(am_wsm (am_tb3 11 rfl) rfl), (am_wsm (am_tb3 13 rfl) rfl), am_selm (am_wsm (am_tbs 12 rfl) rfl), _, _, rfl⟩), (fun z => absurd z (by decide)), (fun z => absurd z (by decide)), (fun z => absurd z (by decide))⟩, (fun z => absurd z (by decide)), (fun z => absurd z (by decide)), (fun z => absurd z (by decide))⟩
theorem gy5_80 : am_pY 5 (80, 1, 74, 2, 5) := ⟨fun _ => ⟨m_M_insert, M_M_insert, gc_M_insert, (fun z => absurd z (by decide)), (fun _ => ⟨(am_wsm (am_tb3 15 rfl) rfl), (am_wsm (am_tb3 17 rfl) rfl), am_selm (am_wsm (am_tbs 13 rfl) rfl), _, _, rfl⟩), (fun z => absurd z (by decide)), (fun z => absurd z (by decide)), (fun z => absurd z (by decide))⟩, (fun z => absurd z (by decide)), (fun z => absurd z (by decide)), (fun z => absurd z (by decide))⟩
theorem gy5_83 : am_pY 5 (83, 1, 80, 1, 5) := ⟨fun _ => ⟨m_M_wordAt, M_M_wordAt, gc_M_wordAt, (fun z => absurd z (by decide)), (fun _ => ⟨(am_wsm (am_tb3 39 rfl) rfl), (am_wsm (am_tb3 41 rfl) rfl), am_selm (am_wsm (am_tbs 14 rfl) rfl), _, _, rfl⟩), (fun z => absurd z (by decide)), (fun z => absurd z (by decide)), (fun z => absurd z (by decide))⟩, (fun z => absurd z (by decide)), (fun z => absurd z (by decide)), (fun z => absurd z (by decide))⟩
theorem gy5_89 : am_pY 5 (89, 0, 84, 2, 5) := ⟨fun _ => ⟨m_M_mul, M_M_mul, gc_M_mul, (fun _ => ⟨(am_wsm (am_tb3 55 rfl) rfl), (am_wsm (am_tb3 56 rfl) rfl)⟩), (fun z => absurd z (by decide)), (fun z => absurd z (by decide)), (fun z => absurd z (by decide)), (fun z => absurd z (by decide))⟩, (fun z => absurd z (by decide)), (fun z => absurd z (by decide)), (fun z => absurd z (by decide))⟩
theorem gy5_95 : am_pY 5 (95, 0, 83, 1, 5) := ⟨fun _ => ⟨m_M_point, M_M_point, gc_M_point, (fun _ => ⟨(am_wsm (am_tb3 51 rfl) rfl), (am_wsm (am_tb3 52 rfl) rfl)⟩), (fun z => absurd z (by decide)), (fun z => absurd z (by decide)), (fun z => absurd z (by decide)), (fun z => absurd z (by decide))⟩, (fun z => absurd z (by decide)), (fun z => absurd z (by decide)), (fun z => absurd z (by decide))⟩
theorem gy5_99 : am_pY 5 (99, 1, 82, 2, 5) := ⟨fun _ => ⟨m_M_sampleOf, M_M_sampleOf, gc_M_sampleOf, (fun z => absurd z (by decide)), (fun _ => ⟨(am_wsm (am_tb3 47 rfl) rfl), (am_wsm (am_tb3 49 rfl) rfl), am_selm (am_wsm (am_tbs 15 rfl) rfl), _, _, rfl⟩), (fun z => absurd z (by decide)), (fun z => absurd z (by decide)), (fun z => absurd z (by decide))⟩, (fun z => absurd z (by decide)), (fun z => absurd z (by decide)), (fun z => absurd z (by decide))⟩
theorem gy5_103 : am_pY 5 (103, 0, 93, 2, 5) := ⟨fun _ => ⟨m_M_minus, M_M_minus, gc_M_minus, (fun _ => ⟨(am_wsm (am_tb3 89 rfl) rfl), (am_wsm (am_tb3 90 rfl) rfl)⟩), (fun z => absurd z (by decide)), (fun z => absurd z (by decide)), (fun z => absurd z (by decide)), (fun z => absurd z (by decide))⟩, (fun z => absurd z (by decide)), (fun z => absurd z (by decide)), (fun z => absurd z (by decide))⟩
theorem gy5_116 : am_pY 5 (116, 1, 92, 3, 5) := ⟨fun _ => ⟨m_M_valueOf, M_M_valueOf, gc_M_valueOf, (fun z => absurd z (by decide)), (fun _ => ⟨(am_wsm (am_tb3 85 rfl) rfl), (am_wsm (am_tb3 87 rfl) rfl), am_selm (am_wsm (am_tbs 20 rfl) rfl), _, _, rfl⟩), (fun z => absurd z (by decide)), (fun z => absurd z (by decide)), (fun z => absurd z (by decide))⟩, (fun z => absurd z (by decide)), (fun z => absurd z (by decide)), (fun z => absurd z (by decide))⟩
theorem gy5_120 : am_pY 5 (120, 0, 94, 1, 5) := ⟨fun _ => ⟨m_M_inverse, M_M_inverse, gc_M_inverse, (fun _ => ⟨(am_wsm (am_tb3 92 rfl) rfl), (am_wsm (am_tb3 93 rfl) rfl)⟩), (fun z => absurd z (by decide)), (fun z => absurd z (by decide)), (fun z => absurd z (by decide)), (fun z => absurd z (by decide))⟩, (fun z => absurd z (by decide)), (fun z => absurd z (by decide)), (fun z => absurd z (by decide))⟩
theorem gy5_124 : am_pY 5 (124, 1, 95, 3, 5) := ⟨fun _ => ⟨m_M_take, M_M_take, gc_M_take, (fun z => absurd z (by decide)), (fun _ => ⟨(am_wsm (am_tb3 95 rfl) rfl), (am_wsm (am_tb3 97 rfl) rfl), am_selm (am_wsm (am_tbs 21 rfl) rfl), _, _, rfl⟩), (fun z => absurd z (by decide)), (fun z => absurd z (by decide)), (fun z => absurd z (by decide))⟩, (fun z => absurd z (by decide)), (fun z => absurd z (by decide)), (fun z => absurd z (by decide))⟩
theorem gy5_128 : am_pY 5 (128, 1, 96, 1, 5) := ⟨fun _ => ⟨m_M_removePair, M_M_removePair, gc_M_removePair, (fun z => absurd z (by decide)), (fun _ => ⟨(am_wsm (am_tb3 99 rfl) rfl), (am_wsm (am_tb3 101 rfl) rfl), am_selm (am_wsm (am_tbs 22 rfl) rfl), _, _, rfl⟩), (fun z => absurd z (by decide)), (fun z => absurd z (by decide)), (fun z => absurd z (by decide))⟩, (fun z => absurd z (by decide)), (fun z => absurd z (by decide)), (fun z => absurd z (by decide))⟩
theorem gy5_132 : am_pY 5 (132, 1, 99, 2, 5) := ⟨fun _ => ⟨m_M_scale, M_M_scale, gc_M_scale, (fun z => absurd z (by decide)), (fun _ => ⟨(am_wsm (am_tb3 111 rfl) rfl), (am_wsm (am_tb3 113 rfl) rfl), am_selm (am_wsm (am_tbs 25 rfl) rfl), _, _, rfl⟩), (fun z => absurd z (by decide)), (fun z => absurd z (by decide)), (fun z => absurd z (by decide))⟩, (fun z => absurd z (by decide)), (fun z => absurd z (by decide)), (fun z => absurd z (by decide))⟩
theorem gy5_136 : am_pY 5 (136, 1, 98, 1, 5) := ⟨fun _ => ⟨m_M_lead, M_M_lead, gc_M_lead, (fun z => absurd z (by decide)), (fun _ => ⟨(am_wsm (am_tb3 107 rfl) rfl), (am_wsm (am_tb3 109 rfl) rfl), am_selm (am_wsm (am_tbs 24 rfl) rfl), _, _, rfl⟩), (fun z => absurd z (by decide)), (fun z => absurd z (by decide)), (fun z => absurd z (by decide))⟩, (fun z => absurd z (by decide)), (fun z => absurd z (by decide)), (fun z => absurd z (by decide))⟩
theorem gy5_142 : am_pY 5 (142, 1, 102, 1, 5) := ⟨fun _ => ⟨m_M_divide, M_M_divide, gc_M_divide, (fun z => absurd z (by decide)), (fun _ => ⟨(am_wsm (am_tb3 123 rfl) rfl), (am_wsm (am_tb3 125 rfl) rfl), am_selm (am_wsm (am_tbs 28 rfl) rfl), _, _, rfl⟩), (fun z => absurd z (by decide)), (fun z => absurd z (by decide)), (fun z => absurd z (by decide))⟩, (fun z => absurd z (by decide)), (fun z => absurd z (by decide)), (fun z => absurd z (by decide))⟩
theorem gy5_145 : am_pY 5 (145, 1, 103, 0, 5) := ⟨fun _ => ⟨m_M_left, M_M_left, gc_M_left, (fun z => absurd z (by decide)), (fun _ => ⟨(am_wsm (am_tb3 127 rfl) rfl), (am_wsm (am_tb3 129 rfl) rfl), am_selm (am_wsm (am_tbs 29 rfl) rfl), _, _, rfl⟩), (fun z => absurd z (by decide)), (fun z => absurd z (by decide)), (fun z => absurd z (by decide))⟩, (fun z => absurd z (by decide)), (fun z => absurd z (by decide)), (fun z => absurd z (by decide))⟩
theorem gy5_149 : am_pY 5 (149, 1, 104, 0, 5) := ⟨fun _ => ⟨m_M_makePlain, M_M_makePlain, gc_M_makePlain, (fun z => absurd z (by decide)), (fun _ => ⟨(am_wsm (am_tb3 131 rfl) rfl), (am_wsm (am_tb3 133 rfl) rfl), am_selm (am_wsm (am_tbs 30 rfl) rfl), _, _, rfl⟩), (fun z => absurd z (by decide)), (fun z => absurd z (by decide)), (fun z => absurd z (by decide))⟩, (fun z => absurd z (by decide)), (fun z => absurd z (by decide)), (fun z => absurd z (by decide))⟩
theorem gy5_152 : am_pY 5 (152, 1, 101, 0, 5) := ⟨fun _ => ⟨m_M_commonDivisor, M_M_commonDivisor, gc_M_commonDivisor, (fun z => absurd z (by decide)), (fun _ => ⟨(am_wsm (am_tb3 119 rfl) rfl), (am_wsm (am_tb3 121 rfl) rfl), am_selm (am_wsm (am_tbs 27 rfl) rfl), _, _, rfl⟩), (fun z => absurd z (by decide)), (fun z => absurd z (by decide)), (fun z => absurd z (by decide))⟩, (fun z => absurd z (by decide)), (fun z => absurd z (by decide)), (fun z => absurd z (by decide))⟩
theorem gy5_164 : am_pY 5 (164, 1, 109, 2, 5) := ⟨fun _ => ⟨m_M_note, M_M_note, gc_M_note, (fun z => absurd z (by decide)), (fun _ => ⟨(am_wsm (am_tb3 151 rfl) rfl), (am_wsm (am_tb3 153 rfl) rfl), am_selm (am_wsm (am_tbs 35 rfl) rfl), _, _, rfl⟩), (fun z => absurd z (by decide)), (fun z => absurd z (by decide)), (fun z => absurd z (by decide))⟩, (fun z => absurd z (by decide)), (fun z => absurd z (by decide)), (fun z => absurd z (by decide))⟩
theorem gy5_174 : am_pY 5 (174, 1, 90, 0, 5) := ⟨fun _ => ⟨m_M_allPairs, M_M_allPairs, gc_M_allPairs, (fun z => absurd z (by decide)), (fun _ => ⟨(am_wsm (am_tb3 77 rfl) rfl), (am_wsm (am_tb3 79 rfl) rfl), am_selm (am_wsm (am_tbs 18 rfl) rfl), _, _, rfl⟩), (fun z => absurd z (by decide)), (fun z => absurd z (by decide)), (fun z => absurd z (by decide))⟩, (fun z => absurd z (by decide)), (fun z => absurd z (by decide)), (fun z => absurd z (by decide))⟩
theorem gy5_177 : am_pY 5 (177, 1, 91, 3, 5) := ⟨fun _ => ⟨m_M_sift, M_M_sift, gc_M_sift, (fun z => absurd z (by decide)), (fun _ => ⟨(am_wsm (am_tb3 81 rfl) rfl), (am_wsm (am_tb3 83 rfl) rfl), am_selm (am_wsm (am_tbs 19 rfl) rfl), _, _, rfl⟩), (fun z => absurd z (by decide)), (fun z => absurd z (by decide)), (fun z => absurd z (by decide))⟩, (fun z => absurd z (by decide)), (fun z => absurd z (by decide)), (fun z => absurd z (by decide))⟩
theorem gy5_181 : am_pY 5 (181, 1, 97, 0, 5) := ⟨fun _ => ⟨m_M_choose, M_M_choose, gc_M_choose, (fun z => absurd z (by decide)), (fun _ => ⟨(am_wsm (am_tb3 103 rfl) rfl), (am_wsm (am_tb3 105 rfl) rfl), am_selm (am_wsm (am_tbs 23 rfl) rfl), _, _, rfl⟩), (fun z => absurd z (by decide)), (fun z => absurd z (by decide)), (fun z => absurd z (by decide))⟩, (fun z => absurd z (by decide)), (fun z => absurd z (by decide)), (fun z => absurd z (by decide))⟩
theorem gy5_185 : am_pY 5 (185, 1, 106, 1, 5) := ⟨fun _ => ⟨m_M_upAt, M_M_upAt, gc_M_upAt, (fun z => absurd z (by decide)), (fun _ => ⟨(am_wsm (am_tb3 139 rfl) rfl), (am_wsm (am_tb3 141 rfl) rfl), am_selm (am_wsm (am_tbs 32 rfl) rfl), _, _, rfl⟩), (fun z => absurd z (by decide)), (fun z => absurd z (by decide)), (fun z => absurd z (by decide))⟩, (fun z => absurd z (by decide)), (fun z => absurd z (by decide)), (fun z => absurd z (by decide))⟩
theorem gy5_188 : am_pY 5 (188, 1, 107, 1, 5) := ⟨fun _ => ⟨m_M_lowAt, M_M_lowAt, gc_M_lowAt, (fun z => absurd z (by decide)), (fun _ => ⟨(am_wsm (am_tb3 143 rfl) rfl), (am_wsm (am_tb3 145 rfl) rfl), am_selm (am_wsm (am_tbs 33 rfl) rfl), _, _, rfl⟩), (fun z => absurd z (by decide)), (fun z => absurd z (by decide)), (fun z => absurd z (by decide))⟩, (fun z => absurd z (by decide)), (fun z => absurd z (by decide)), (fun z => absurd z (by decide))⟩
theorem gy5_191 : am_pY 5 (191, 1, 89, 3, 5) := ⟨fun _ => ⟨m_M_solved, M_M_solved, gc_M_solved, (fun z => absurd z (by decide)), (fun _ => ⟨(am_wsm (am_tb3 73 rfl) rfl), (am_wsm (am_tb3 75 rfl) rfl), am_selm (am_wsm (am_tbs 17 rfl) rfl), _, _, rfl⟩), (fun z => absurd z (by decide)), (fun z => absurd z (by decide)), (fun z => absurd z (by decide))⟩, (fun z => absurd z (by decide)), (fun z => absurd z (by decide)), (fun z => absurd z (by decide))⟩
theorem gy5_195 : am_pY 5 (195, 1, 100, 0, 5) := ⟨fun _ => ⟨m_M_cancel, M_M_cancel, gc_M_cancel, (fun z => absurd z (by decide)), (fun _ => ⟨(am_wsm (am_tb3 115 rfl) rfl), (am_wsm (am_tb3 117 rfl) rfl), am_selm (am_wsm (am_tbs 26 rfl) rfl), _, _, rfl⟩), (fun z => absurd z (by decide)), (fun z => absurd z (by decide)), (fun z => absurd z (by decide))⟩, (fun z => absurd z (by decide)), (fun z => absurd z (by decide)), (fun z => absurd z (by decide))⟩
theorem gy5_198 : am_pY 5 (198, 1, 105, 3, 5) := ⟨fun _ => ⟨m_M_checked, M_M_checked, gc_M_checked, (fun z => absurd z (by decide)), (fun _ => ⟨(am_wsm (am_tb3 135 rfl) rfl), (am_wsm (am_tb3 137 rfl) rfl), am_selm (am_wsm (am_tbs 31 rfl) rfl), _, _, rfl⟩), (fun z => absurd z (by decide)), (fun z => absurd z (by decide)), (fun z => absurd z (by decide))⟩, (fun z => absurd z (by decide)), (fun z => absurd z (by decide)), (fun z => absurd z (by decide))⟩
theorem gy5_201 : am_pY 5 (201, 1, 108, 2, 5) := ⟨fun _ => ⟨m_M_offer, M_M_offer, gc_M_offer, (fun z => absurd z (by decide)), (fun _ => ⟨(am_wsm (am_tb3 147 rfl) rfl), (am_wsm (am_tb3 149 rfl) rfl), am_selm (am_wsm (am_tbs 34 rfl) rfl), _, _, rfl⟩), (fun z => absurd z (by decide)), (fun z => absurd z (by decide)), (fun z => absurd z (by decide))⟩, (fun z => absurd z (by decide)), (fun z => absurd z (by decide)), (fun z => absurd z (by decide))⟩
theorem gy5_205 : am_pY 5 (205, 1, 110, 0, 5) := ⟨fun _ => ⟨m_M_takeOver, M_M_takeOver, gc_M_takeOver, (fun z => absurd z (by decide)), (fun _ => ⟨(am_wsm (am_tb3 155 rfl) rfl), (am_wsm (am_tb3 157 rfl) rfl), am_selm (am_wsm (am_tbs 36 rfl) rfl), _, _, rfl⟩), (fun z => absurd z (by decide)), (fun z => absurd z (by decide)), (fun z => absurd z (by decide))⟩, (fun z => absurd z (by decide)), (fun z => absurd z (by decide)), (fun z => absurd z (by decide))⟩
theorem gy5_208 : am_pY 5 (208, 0, 86, 2, 5) := ⟨fun _ => ⟨m_M_areTwo, M_M_areTwo, gc_M_areTwo, (fun _ => ⟨(am_wsm (am_tb3 63 rfl) rfl), (am_wsm (am_tb3 64 rfl) rfl)⟩), (fun z => absurd z (by decide)), (fun z => absurd z (by decide)), (fun z => absurd z (by decide)), (fun z => absurd z (by decide))⟩, (fun z => absurd z (by decide)), (fun z => absurd z (by decide)), (fun z => absurd z (by decide))⟩
theorem gy5_211 : am_pY 5 (211, 0, 87, 1, 5) := ⟨fun _ => ⟨m_M_isMany, M_M_isMany, gc_M_isMany, (fun _ => ⟨(am_wsm (am_tb3 66 rfl) rfl), (am_wsm (am_tb3 67 rfl) rfl)⟩), (fun z => absurd z (by decide)), (fun z => absurd z (by decide)), (fun z => absurd z (by decide)), (fun z => absurd z (by decide))⟩, (fun z => absurd z (by decide)), (fun z => absurd z (by decide)), (fun z => absurd z (by decide))⟩
theorem gy5_214 : am_pY 5 (214, 1, 88, 3, 5) := ⟨fun _ => ⟨m_M_exchanged, M_M_exchanged, gc_M_exchanged, (fun z => absurd z (by decide)), (fun _ => ⟨(am_wsm (am_tb3 69 rfl) rfl), (am_wsm (am_tb3 71 rfl) rfl), am_selm (am_wsm (am_tbs 16 rfl) rfl), _, _, rfl⟩), (fun z => absurd z (by decide)), (fun z => absurd z (by decide)), (fun z => absurd z (by decide))⟩, (fun z => absurd z (by decide)), (fun z => absurd z (by decide)), (fun z => absurd z (by decide))⟩
theorem gy5_218 : am_pY 5 (218, 1, 112, 2, 5) := ⟨fun _ => ⟨m_M_listed, M_M_listed, gc_M_listed, (fun z => absurd z (by decide)), (fun _ => ⟨(am_wsm (am_tb3 164 rfl) rfl), (am_wsm (am_tb3 166 rfl) rfl), am_selm (am_wsm (am_tbs 37 rfl) rfl), _, _, rfl⟩), (fun z => absurd z (by decide)), (fun z => absurd z (by decide)), (fun z => absurd z (by decide))⟩, (fun z => absurd z (by decide)), (fun z => absurd z (by decide)), (fun z => absurd z (by decide))⟩
theorem gy5_221 : am_pY 5 (221, 1, 114, 3, 5) := ⟨fun _ => ⟨m_M_settled, M_M_settled, gc_M_settled, (fun z => absurd z (by decide)), (fun _ => ⟨(am_wsm (am_tb3 172 rfl) rfl), (am_wsm (am_tb3 174 rfl) rfl), am_selm (am_wsm (am_tbs 38 rfl) rfl), _, _, rfl⟩), (fun z => absurd z (by decide)), (fun z => absurd z (by decide)), (fun z => absurd z (by decide))⟩, (fun z => absurd z (by decide)), (fun z => absurd z (by decide)), (fun z => absurd z (by decide))⟩
theorem gy5_224 : am_pY 5 (224, 1, 117, 2, 5) := ⟨fun _ => ⟨m_M_lacks, M_M_lacks, gc_M_lacks, (fun z => absurd z (by decide)), (fun _ => ⟨(am_wsm (am_tb3 184 rfl) rfl), (am_wsm (am_tb3 186 rfl) rfl), am_selm (am_wsm (am_tbs 39 rfl) rfl), _, _, rfl⟩), (fun z => absurd z (by decide)), (fun z => absurd z (by decide)), (fun z => absurd z (by decide))⟩, (fun z => absurd z (by decide)), (fun z => absurd z (by decide)), (fun z => absurd z (by decide))⟩
theorem gy5 : ∀ q ∈ am_Yt5, am_pY 5 q := List.forall_mem_cons.mpr ⟨gy5_1, List.forall_mem_cons.mpr ⟨gy5_69, List.forall_mem_cons.mpr ⟨gy5_73, List.forall_mem_cons.mpr ⟨gy5_76, List.forall_mem_cons.mpr ⟨gy5_80, List.forall_mem_cons.mpr ⟨gy5_83, List.forall_mem_cons.mpr ⟨gy5_89, List.forall_mem_cons.mpr ⟨gy5_95, List.forall_mem_cons.mpr ⟨gy5_99, List.forall_mem_cons.mpr ⟨gy5_103, List.forall_mem_cons.mpr ⟨gy5_116, List.forall_mem_cons.mpr ⟨gy5_120, List.forall_mem_cons.mpr ⟨gy5_124, List.forall_mem_cons.mpr ⟨gy5_128, List.forall_mem_cons.mpr ⟨gy5_132, List.forall_mem_cons.mpr ⟨gy5_136, List.forall_mem_cons.mpr ⟨gy5_142, List.forall_mem_cons.mpr ⟨gy5_145, List.forall_mem_cons.mpr ⟨gy5_149, List.forall_mem_cons.mpr ⟨gy5_152, List.forall_mem_cons.mpr ⟨gy5_164, List.forall_mem_cons.mpr ⟨gy5_174, List.forall_mem_cons.mpr ⟨gy5_177, List.forall_mem_cons.mpr ⟨gy5_181, List.forall_mem_cons.mpr ⟨gy5_185, List.forall_mem_cons.mpr ⟨gy5_188, List.forall_mem_cons.mpr ⟨gy5_191, List.forall_mem_cons.mpr ⟨gy5_195, List.forall_mem_cons.mpr ⟨gy5_198, List.forall_mem_cons.mpr ⟨gy5_201, List.forall_mem_cons.mpr ⟨gy5_205, List.forall_mem_cons.mpr ⟨gy5_208, List.forall_mem_cons.mpr ⟨gy5_211, List.forall_mem_cons.mpr ⟨gy5_214, List.forall_mem_cons.mpr ⟨gy5_218, List.forall_mem_cons.mpr ⟨gy5_221, List.forall_mem_cons.mpr ⟨gy5_224, fun _ h => absurd h List.not_mem_nil⟩⟩⟩⟩⟩⟩⟩⟩⟩⟩⟩⟩⟩⟩⟩⟩⟩⟩⟩⟩⟩⟩⟩⟩⟩⟩⟩⟩⟩⟩⟩⟩⟩⟩⟩⟩⟩
theorem gy6 : ∀ q ∈ am_Yt6, am_pY 6 q := fun _ h => absurd h List.not_mem_nil
theorem gy7_9 : am_pY 7 (9, 3, 1, 0, 0) := ⟨fun _ => ⟨m_B_init, M_B_init, gc_B_init, (fun z => absurd z (by decide)), (fun z => absurd z (by decide)), (fun z => absurd z (by decide)), (fun _ => ⟨(am_wsm (am_tb1 13 rfl) rfl), (am_wsm (am_tb1 14 rfl) rfl), rfl, rfl⟩), (fun z => absurd z (by decide))⟩, (fun z => absurd z (by decide)), (fun z => absurd z (by decide)), (fun z => absurd z (by decide))⟩
theorem gy7_12 : am_pY 7 (12, 3, 69, 0, 5) := ⟨fun _ => ⟨m_M_init, M_M_init, gc_M_init, (fun z => absurd z (by decide)), (fun z => absurd z (by decide)), (fun z => absurd z (by decide)), (fun _ => ⟨(am_wsm (am_tb2 155 rfl) rfl), (am_wsm (am_tb2 156 rfl) rfl), rfl, rfl⟩), (fun z => absurd z (by decide))⟩, (fun z => absurd z (by decide)), (fun z => absurd z (by decide)), (fun z => absurd z (by decide))⟩
theorem gy7_13 : am_pY 7 (13, 1, 6, 3, 0) := ⟨fun _ => ⟨m_B_put, M_B_put, gc_B_put, (fun z => absurd z (by decide)), (fun _ => ⟨(am_wsm (am_tb1 127 rfl) rfl), (am_wsm (am_tb1 128 rfl) rfl), am_selm (am_wsm (am_tb1 129 rfl) rfl), _, _, rfl⟩), (fun z => absurd z (by decide)), (fun z => absurd z (by decide)), (fun z => absurd z (by decide))⟩, (fun z => absurd z (by decide)), (fun z => absurd z (by decide)), (fun z => absurd z (by decide))⟩
theorem gy7_17 : am_pY 7 (17, 1, 70, 3, 5) := ⟨fun _ => ⟨m_M_put, M_M_put, gc_M_put, (fun z => absurd z (by decide)), (fun _ => ⟨(am_wsm (am_tb3 1 rfl) rfl), (am_wsm (am_tb3 2 rfl) rfl), am_selm (am_wsm (am_tb3 3 rfl) rfl), _, _, rfl⟩), (fun z => absurd z (by decide)), (fun z => absurd z (by decide)), (fun z => absurd z (by decide))⟩, (fun z => absurd z (by decide)), (fun z => absurd z (by decide)), (fun z => absurd z (by decide))⟩
theorem gy7_18 : am_pY 7 (18, 1, 16, 2, 0) := ⟨fun _ => ⟨m_B_drop, M_B_drop, gc_B_drop, (fun z => absurd z (by decide)), (fun _ => ⟨(am_wsm (am_tb1 165 rfl) rfl), (am_wsm (am_tb1 166 rfl) rfl), am_selm (am_wsm (am_tb1 167 rfl) rfl), _, _, rfl⟩), (fun z => absurd z (by decide)), (fun z => absurd z (by decide)), (fun z => absurd z (by decide))⟩, (fun z => absurd z (by decide)), (fun z => absurd z (by decide)), (fun z => absurd z (by decide))⟩
theorem gy7_22 : am_pY 7 (22, 1, 75, 2, 5) := ⟨fun _ => ⟨m_M_drop, M_M_drop, gc_M_drop, (fun z => absurd z (by decide)), (fun _ => ⟨(am_wsm (am_tb3 19 rfl) rfl), (am_wsm (am_tb3 20 rfl) rfl), am_selm (am_wsm (am_tb3 21 rfl) rfl), _, _, rfl⟩), (fun z => absurd z (by decide)), (fun z => absurd z (by decide)), (fun z => absurd z (by decide))⟩, (fun z => absurd z (by decide)), (fun z => absurd z (by decide)), (fun z => absurd z (by decide))⟩
theorem gy7_23 : am_pY 7 (23, 1, 17, 2, 0) := ⟨fun _ => ⟨m_B_version, M_B_version, gc_B_version, (fun z => absurd z (by decide)), (fun _ => ⟨(am_wsm (am_tb1 169 rfl) rfl), (am_wsm (am_tb1 170 rfl) rfl), am_selm (am_wsm (am_tb1 171 rfl) rfl), _, _, rfl⟩), (fun z => absurd z (by decide)), (fun z => absurd z (by decide)), (fun z => absurd z (by decide))⟩, (fun z => absurd z (by decide)), (fun z => absurd z (by decide)), (fun z => absurd z (by decide))⟩
theorem gy7_26 : am_pY 7 (26, 1, 76, 2, 5) := ⟨fun _ => ⟨m_M_version, M_M_version, gc_M_version, (fun z => absurd z (by decide)), (fun _ => ⟨(am_wsm (am_tb3 23 rfl) rfl), (am_wsm (am_tb3 24 rfl) rfl), am_selm (am_wsm (am_tb3 25 rfl) rfl), _, _, rfl⟩), (fun z => absurd z (by decide)), (fun z => absurd z (by decide)), (fun z => absurd z (by decide))⟩, (fun z => absurd z (by decide)), (fun z => absurd z (by decide)), (fun z => absurd z (by decide))⟩
theorem gy7_27 : am_pY 7 (27, 1, 18, 2, 0) := ⟨fun _ => ⟨m_B_grams, M_B_grams, gc_B_grams, (fun z => absurd z (by decide)), (fun _ => ⟨(am_wsm (am_tb1 173 rfl) rfl), (am_wsm (am_tb1 174 rfl) rfl), am_selm (am_wsm (am_tb1 175 rfl) rfl), _, _, rfl⟩), (fun z => absurd z (by decide)), (fun z => absurd z (by decide)), (fun z => absurd z (by decide))⟩, (fun z => absurd z (by decide)), (fun z => absurd z (by decide)), (fun z => absurd z (by decide))⟩
theorem gy7_30 : am_pY 7 (30, 1, 77, 2, 5) := ⟨fun _ => ⟨m_M_grams, M_M_grams, gc_M_grams, (fun z => absurd z (by decide)), (fun _ => ⟨(am_wsm (am_tb3 27 rfl) rfl), (am_wsm (am_tb3 28 rfl) rfl), am_selm (am_wsm (am_tb3 29 rfl) rfl), _, _, rfl⟩), (fun z => absurd z (by decide)), (fun z => absurd z (by decide)), (fun z => absurd z (by decide))⟩, (fun z => absurd z (by decide)), (fun z => absurd z (by decide)), (fun z => absurd z (by decide))⟩
theorem gy7_31 : am_pY 7 (31, 1, 19, 1, 0) := ⟨fun _ => ⟨m_B_size, M_B_size, gc_B_size, (fun z => absurd z (by decide)), (fun _ => ⟨(am_wsm (am_tb1 177 rfl) rfl), (am_wsm (am_tb1 178 rfl) rfl), am_selm (am_wsm (am_tb1 179 rfl) rfl), _, _, rfl⟩), (fun z => absurd z (by decide)), (fun z => absurd z (by decide)), (fun z => absurd z (by decide))⟩, (fun z => absurd z (by decide)), (fun z => absurd z (by decide)), (fun z => absurd z (by decide))⟩
theorem gy7_35 : am_pY 7 (35, 1, 78, 1, 5) := ⟨fun _ => ⟨m_M_size, M_M_size, gc_M_size, (fun z => absurd z (by decide)), (fun _ => ⟨(am_wsm (am_tb3 31 rfl) rfl), (am_wsm (am_tb3 32 rfl) rfl), am_selm (am_wsm (am_tb3 33 rfl) rfl), _, _, rfl⟩), (fun z => absurd z (by decide)), (fun z => absurd z (by decide)), (fun z => absurd z (by decide))⟩, (fun z => absurd z (by decide)), (fun z => absurd z (by decide)), (fun z => absurd z (by decide))⟩
theorem gy7_36 : am_pY 7 (36, 1, 20, 2, 0) := ⟨fun _ => ⟨m_B_word, M_B_word, gc_B_word, (fun z => absurd z (by decide)), (fun _ => ⟨(am_wsm (am_tb1 181 rfl) rfl), (am_wsm (am_tb1 182 rfl) rfl), am_selm (am_wsm (am_tb1 183 rfl) rfl), _, _, rfl⟩), (fun z => absurd z (by decide)), (fun z => absurd z (by decide)), (fun z => absurd z (by decide))⟩, (fun z => absurd z (by decide)), (fun z => absurd z (by decide)), (fun z => absurd z (by decide))⟩
theorem gy7_39 : am_pY 7 (39, 1, 79, 2, 5) := ⟨fun _ => ⟨m_M_word, M_M_word, gc_M_word, (fun z => absurd z (by decide)), (fun _ => ⟨(am_wsm (am_tb3 35 rfl) rfl), (am_wsm (am_tb3 36 rfl) rfl), am_selm (am_wsm (am_tb3 37 rfl) rfl), _, _, rfl⟩), (fun z => absurd z (by decide)), (fun z => absurd z (by decide)), (fun z => absurd z (by decide))⟩, (fun z => absurd z (by decide)), (fun z => absurd z (by decide)), (fun z => absurd z (by decide))⟩
theorem gy7_40 : am_pY 7 (40, 1, 21, 2, 0) := ⟨fun _ => ⟨m_B_sample, M_B_sample, gc_B_sample, (fun z => absurd z (by decide)), (fun _ => ⟨(am_wsm (am_tb1 185 rfl) rfl), (am_wsm (am_tb1 186 rfl) rfl), am_selm (am_wsm (am_tb1 187 rfl) rfl), _, _, rfl⟩), (fun z => absurd z (by decide)), (fun z => absurd z (by decide)), (fun z => absurd z (by decide))⟩, (fun z => absurd z (by decide)), (fun z => absurd z (by decide)), (fun z => absurd z (by decide))⟩
theorem gy7_43 : am_pY 7 (43, 1, 81, 2, 5) := ⟨fun _ => ⟨m_M_sample, M_M_sample, gc_M_sample, (fun z => absurd z (by decide)), (fun _ => ⟨(am_wsm (am_tb3 43 rfl) rfl), (am_wsm (am_tb3 44 rfl) rfl), am_selm (am_wsm (am_tb3 45 rfl) rfl), _, _, rfl⟩), (fun z => absurd z (by decide)), (fun z => absurd z (by decide)), (fun z => absurd z (by decide))⟩, (fun z => absurd z (by decide)), (fun z => absurd z (by decide)), (fun z => absurd z (by decide))⟩
theorem gy7_44 : am_pY 7 (44, 1, 24, 3, 0) := ⟨fun _ => ⟨m_B_exchange, M_B_exchange, gc_B_exchange, (fun z => absurd z (by decide)), (fun _ => ⟨(am_wsm (am_tb1 198 rfl) rfl), (am_wsm (am_tb1 199 rfl) rfl), am_selm (am_wsm (am_tb1 200 rfl) rfl), _, _, rfl⟩), (fun z => absurd z (by decide)), (fun z => absurd z (by decide)), (fun z => absurd z (by decide))⟩, (fun z => absurd z (by decide)), (fun z => absurd z (by decide)), (fun z => absurd z (by decide))⟩
theorem gy7_47 : am_pY 7 (47, 1, 85, 3, 5) := ⟨fun _ => ⟨m_M_exchange, M_M_exchange, gc_M_exchange, (fun z => absurd z (by decide)), (fun _ => ⟨(am_wsm (am_tb3 59 rfl) rfl), (am_wsm (am_tb3 60 rfl) rfl), am_selm (am_wsm (am_tb3 61 rfl) rfl), _, _, rfl⟩), (fun z => absurd z (by decide)), (fun z => absurd z (by decide)), (fun z => absurd z (by decide))⟩, (fun z => absurd z (by decide)), (fun z => absurd z (by decide)), (fun z => absurd z (by decide))⟩
theorem gy7_48 : am_pY 7 (48, 1, 56, 2, 0) := ⟨fun _ => ⟨m_B_list, M_B_list, gc_B_list, (fun z => absurd z (by decide)), (fun _ => ⟨(am_wsm (am_tb2 97 rfl) rfl), (am_wsm (am_tb2 98 rfl) rfl), am_selm (am_wsm (am_tb2 99 rfl) rfl), _, _, rfl⟩), (fun z => absurd z (by decide)), (fun z => absurd z (by decide)), (fun z => absurd z (by decide))⟩, (fun z => absurd z (by decide)), (fun z => absurd z (by decide)), (fun z => absurd z (by decide))⟩
theorem gy7_51 : am_pY 7 (51, 1, 111, 2, 5) := ⟨fun _ => ⟨m_M_list, M_M_list, gc_M_list, (fun z => absurd z (by decide)), (fun _ => ⟨(am_wsm (am_tb3 160 rfl) rfl), (am_wsm (am_tb3 161 rfl) rfl), am_selm (am_wsm (am_tb3 162 rfl) rfl), _, _, rfl⟩), (fun z => absurd z (by decide)), (fun z => absurd z (by decide)), (fun z => absurd z (by decide))⟩, (fun z => absurd z (by decide)), (fun z => absurd z (by decide)), (fun z => absurd z (by decide))⟩
theorem gy7_52 : am_pY 7 (52, 1, 59, 3, 0) := ⟨fun _ => ⟨m_B_settle, M_B_settle, gc_B_settle, (fun z => absurd z (by decide)), (fun _ => ⟨(am_wsm (am_tb2 109 rfl) rfl), (am_wsm (am_tb2 110 rfl) rfl), am_selm (am_wsm (am_tb2 111 rfl) rfl), _, _, rfl⟩), (fun z => absurd z (by decide)), (fun z => absurd z (by decide)), (fun z => absurd z (by decide))⟩, (fun z => absurd z (by decide)), (fun z => absurd z (by decide)), (fun z => absurd z (by decide))⟩
theorem gy7_55 : am_pY 7 (55, 1, 113, 3, 5) := ⟨fun _ => ⟨m_M_settle, M_M_settle, gc_M_settle, (fun z => absurd z (by decide)), (fun _ => ⟨(am_wsm (am_tb3 168 rfl) rfl), (am_wsm (am_tb3 169 rfl) rfl), am_selm (am_wsm (am_tb3 170 rfl) rfl), _, _, rfl⟩), (fun z => absurd z (by decide)), (fun z => absurd z (by decide)), (fun z => absurd z (by decide))⟩, (fun z => absurd z (by decide)), (fun z => absurd z (by decide)), (fun z => absurd z (by decide))⟩
theorem gy7_56 : am_pY 7 (56, 1, 61, 1, 0) := ⟨fun _ => ⟨m_B_spread, M_B_spread, gc_B_spread, (fun z => absurd z (by decide)), (fun _ => ⟨(am_wsm (am_tb2 118 rfl) rfl), (am_wsm (am_tb2 119 rfl) rfl), am_selm (am_wsm (am_tb2 120 rfl) rfl), _, _, rfl⟩), (fun z => absurd z (by decide)), (fun z => absurd z (by decide)), (fun z => absurd z (by decide))⟩, (fun z => absurd z (by decide)), (fun z => absurd z (by decide)), (fun z => absurd z (by decide))⟩
theorem gy7_59 : am_pY 7 (59, 1, 115, 1, 5) := ⟨fun _ => ⟨m_M_spread, M_M_spread, gc_M_spread, (fun z => absurd z (by decide)), (fun _ => ⟨(am_wsm (am_tb3 176 rfl) rfl), (am_wsm (am_tb3 177 rfl) rfl), am_selm (am_wsm (am_tb3 178 rfl) rfl), _, _, rfl⟩), (fun z => absurd z (by decide)), (fun z => absurd z (by decide)), (fun z => absurd z (by decide))⟩, (fun z => absurd z (by decide)), (fun z => absurd z (by decide)), (fun z => absurd z (by decide))⟩
theorem gy7_60 : am_pY 7 (60, 1, 62, 2, 0) := ⟨fun _ => ⟨m_B_difference, M_B_difference, gc_B_difference, (fun z => absurd z (by decide)), (fun _ => ⟨(am_wsm (am_tb2 126 rfl) rfl), (am_wsm (am_tb2 127 rfl) rfl), am_selm (am_wsm (am_tb2 128 rfl) rfl), _, _, rfl⟩), (fun z => absurd z (by decide)), (fun z => absurd z (by decide)), (fun z => absurd z (by decide))⟩, (fun z => absurd z (by decide)), (fun z => absurd z (by decide)), (fun z => absurd z (by decide))⟩
theorem gy7_63 : am_pY 7 (63, 1, 116, 2, 5) := ⟨fun _ => ⟨m_M_difference, M_M_difference, gc_M_difference, (fun z => absurd z (by decide)), (fun _ => ⟨(am_wsm (am_tb3 180 rfl) rfl), (am_wsm (am_tb3 181 rfl) rfl), am_selm (am_wsm (am_tb3 182 rfl) rfl), _, _, rfl⟩), (fun z => absurd z (by decide)), (fun z => absurd z (by decide)), (fun z => absurd z (by decide))⟩, (fun z => absurd z (by decide)), (fun z => absurd z (by decide)), (fun z => absurd z (by decide))⟩
theorem gy7_64 : am_pY 7 (64, 1, 64, 0, 0) := ⟨fun _ => ⟨m_B_sent, M_B_sent, gc_B_sent, (fun z => absurd z (by decide)), (fun _ => ⟨(am_wsm (am_tb2 134 rfl) rfl), (am_wsm (am_tb2 135 rfl) rfl), am_selm (am_wsm (am_tb2 136 rfl) rfl), _, _, rfl⟩), (fun z => absurd z (by decide)), (fun z => absurd z (by decide)), (fun z => absurd z (by decide))⟩, (fun z => absurd z (by decide)), (fun z => absurd z (by decide)), (fun z => absurd z (by decide))⟩
theorem gy7_68 : am_pY 7 (68, 1, 118, 0, 5) := ⟨fun _ => ⟨m_M_sent, M_M_sent, gc_M_sent, (fun z => absurd z (by decide)), (fun _ => ⟨(am_wsm (am_tb3 188 rfl) rfl), (am_wsm (am_tb3 189 rfl) rfl), am_selm (am_wsm (am_tb3 190 rfl) rfl), _, _, rfl⟩), (fun z => absurd z (by decide)), (fun z => absurd z (by decide)), (fun z => absurd z (by decide))⟩, (fun z => absurd z (by decide)), (fun z => absurd z (by decide)), (fun z => absurd z (by decide))⟩
theorem gy7_69 : am_pY 7 (69, 1, 65, 1, 0) := ⟨fun _ => ⟨m_B_degree, M_B_degree, gc_B_degree, (fun z => absurd z (by decide)), (fun _ => ⟨(am_wsm (am_tb2 138 rfl) rfl), (am_wsm (am_tb2 139 rfl) rfl), am_selm (am_wsm (am_tb2 140 rfl) rfl), _, _, rfl⟩), (fun z => absurd z (by decide)), (fun z => absurd z (by decide)), (fun z => absurd z (by decide))⟩, (fun z => absurd z (by decide)), (fun z => absurd z (by decide)), (fun z => absurd z (by decide))⟩
theorem gy7_72 : am_pY 7 (72, 1, 119, 1, 5) := ⟨fun _ => ⟨m_M_degree, M_M_degree, gc_M_degree, (fun z => absurd z (by decide)), (fun _ => ⟨(am_wsm (am_tb3 192 rfl) rfl), (am_wsm (am_tb3 193 rfl) rfl), am_selm (am_wsm (am_tb3 194 rfl) rfl), _, _, rfl⟩), (fun z => absurd z (by decide)), (fun z => absurd z (by decide)), (fun z => absurd z (by decide))⟩, (fun z => absurd z (by decide)), (fun z => absurd z (by decide)), (fun z => absurd z (by decide))⟩
theorem gy7_73 : am_pY 7 (73, 1, 68, 2, 0) := ⟨fun _ => ⟨m_B_factor, M_B_factor, gc_B_factor, (fun z => absurd z (by decide)), (fun _ => ⟨(am_wsm (am_tb2 149 rfl) rfl), (am_wsm (am_tb2 150 rfl) rfl), am_selm (am_wsm (am_tb2 151 rfl) rfl), _, _, rfl⟩), (fun z => absurd z (by decide)), (fun z => absurd z (by decide)), (fun z => absurd z (by decide))⟩, (fun z => absurd z (by decide)), (fun z => absurd z (by decide)), (fun z => absurd z (by decide))⟩
theorem gy7_76 : am_pY 7 (76, 1, 120, 2, 5) := ⟨fun _ => ⟨m_M_factor, M_M_factor, gc_M_factor, (fun z => absurd z (by decide)), (fun _ => ⟨(am_wsm (am_tb3 196 rfl) rfl), (am_wsm (am_tb3 197 rfl) rfl), am_selm (am_wsm (am_tb3 198 rfl) rfl), _, _, rfl⟩), (fun z => absurd z (by decide)), (fun z => absurd z (by decide)), (fun z => absurd z (by decide))⟩, (fun z => absurd z (by decide)), (fun z => absurd z (by decide)), (fun z => absurd z (by decide))⟩
theorem gy7 : ∀ q ∈ am_Yt7, am_pY 7 q := List.forall_mem_cons.mpr ⟨gy7_9, List.forall_mem_cons.mpr ⟨gy7_12, List.forall_mem_cons.mpr ⟨gy7_13, List.forall_mem_cons.mpr ⟨gy7_17, List.forall_mem_cons.mpr ⟨gy7_18, List.forall_mem_cons.mpr ⟨gy7_22, List.forall_mem_cons.mpr ⟨gy7_23, List.forall_mem_cons.mpr ⟨gy7_26, List.forall_mem_cons.mpr ⟨gy7_27, List.forall_mem_cons.mpr ⟨gy7_30, List.forall_mem_cons.mpr ⟨gy7_31, List.forall_mem_cons.mpr ⟨gy7_35, List.forall_mem_cons.mpr ⟨gy7_36, List.forall_mem_cons.mpr ⟨gy7_39, List.forall_mem_cons.mpr ⟨gy7_40, List.forall_mem_cons.mpr ⟨gy7_43, List.forall_mem_cons.mpr ⟨gy7_44, List.forall_mem_cons.mpr ⟨gy7_47, List.forall_mem_cons.mpr ⟨gy7_48, List.forall_mem_cons.mpr ⟨gy7_51, List.forall_mem_cons.mpr ⟨gy7_52, List.forall_mem_cons.mpr ⟨gy7_55, List.forall_mem_cons.mpr ⟨gy7_56, List.forall_mem_cons.mpr ⟨gy7_59, List.forall_mem_cons.mpr ⟨gy7_60, List.forall_mem_cons.mpr ⟨gy7_63, List.forall_mem_cons.mpr ⟨gy7_64, List.forall_mem_cons.mpr ⟨gy7_68, List.forall_mem_cons.mpr ⟨gy7_69, List.forall_mem_cons.mpr ⟨gy7_72, List.forall_mem_cons.mpr ⟨gy7_73, List.forall_mem_cons.mpr ⟨gy7_76, fun _ h => absurd h List.not_mem_nil⟩⟩⟩⟩⟩⟩⟩⟩⟩⟩⟩⟩⟩⟩⟩⟩⟩⟩⟩⟩⟩⟩⟩⟩⟩⟩⟩⟩⟩⟩⟩⟩
theorem gy8 : ∀ q ∈ am_Yt8, am_pY 8 q := fun _ h => absurd h List.not_mem_nil
theorem am_gY : am_GY Pg am_cls am_WS am_NW := by
  intro own k kd j na ci h
  match own, h with
  | 0, h => exact gy0 _ (am_lku _ _ _ h)
  | 1, h => exact gy1 _ (am_lku _ _ _ h)
  | 2, h => exact gy2 _ (am_lku _ _ _ h)
  | 3, h => exact gy3 _ (am_lku _ _ _ h)
  | 4, h => exact gy4 _ (am_lku _ _ _ h)
  | 5, h => exact gy5 _ (am_lku _ _ _ h)
  | 6, h => exact gy6 _ (am_lku _ _ _ h)
  | 7, h => exact gy7 _ (am_lku _ _ _ h)
  | 8, h => exact gy8 _ (am_lku _ _ _ h)
  | _ + 9, h => cases h
theorem am_gMl : ∀ M ∈ am_ms, M.1.cls = am_CN M.2.2.2.2.1 ∧ ∀ (pc : Nat) (i : Instr) (len : Nat), M.2.2.2.2.2[pc]? = some (some (i, len)) → decode M.2.1 pc = .ok (i, len) ∧ am_lo i len = true ∧ ∀ k ci i0 t : Nat, i = .putfield k → am_Ft M.2.2.2.2.1 k = some (2, ci, i0, t) → M.1.name = "<init>" := List.forall_mem_cons.mpr ⟨⟨rfl, am_dk_ok dk_L_law (fun z => by cases z)⟩, List.forall_mem_cons.mpr ⟨⟨rfl, am_dk_ok dk_B_init (fun _ => rfl)⟩, List.forall_mem_cons.mpr ⟨⟨rfl, am_dk_ok dk_R_init (fun _ => rfl)⟩, List.forall_mem_cons.mpr ⟨⟨rfl, am_dk_ok dk_A_init (fun _ => rfl)⟩, List.forall_mem_cons.mpr ⟨⟨rfl, am_dk_ok dk_Y_init (fun _ => rfl)⟩, List.forall_mem_cons.mpr ⟨⟨rfl, am_dk_ok dk_Q_init (fun _ => rfl)⟩, List.forall_mem_cons.mpr ⟨⟨rfl, am_dk_ok dk_B_put (fun z => by cases z)⟩, List.forall_mem_cons.mpr ⟨⟨rfl, am_dk_ok dk_B_isBank (fun z => by cases z)⟩, List.forall_mem_cons.mpr ⟨⟨rfl, am_dk_ok dk_B_isNumber (fun z => by cases z)⟩, List.forall_mem_cons.mpr ⟨⟨rfl, am_dk_ok dk_R_placeOf (fun z => by cases z)⟩, List.forall_mem_cons.mpr ⟨⟨rfl, am_dk_ok dk_R_holdsAt (fun z => by cases z)⟩, List.forall_mem_cons.mpr ⟨⟨rfl, am_dk_ok dk_R_versionAt (fun z => by cases z)⟩, List.forall_mem_cons.mpr ⟨⟨rfl, am_dk_ok dk_B_nextVersion (fun z => by cases z)⟩, List.forall_mem_cons.mpr ⟨⟨rfl, am_dk_ok dk_B_wordOf (fun z => by cases z)⟩, List.forall_mem_cons.mpr ⟨⟨rfl, am_dk_ok dk_R_store (fun z => by cases z)⟩, List.forall_mem_cons.mpr ⟨⟨rfl, am_dk_ok dk_R_copyRecord (fun z => by cases z)⟩, List.forall_mem_cons.mpr ⟨⟨rfl, am_dk_ok dk_B_drop (fun z => by cases z)⟩, List.forall_mem_cons.mpr ⟨⟨rfl, am_dk_ok dk_B_version (fun z => by cases z)⟩, List.forall_mem_cons.mpr ⟨⟨rfl, am_dk_ok dk_B_grams (fun z => by cases z)⟩, List.forall_mem_cons.mpr ⟨⟨rfl, am_dk_ok dk_B_size (fun z => by cases z)⟩, List.forall_mem_cons.mpr ⟨⟨rfl, am_dk_ok dk_B_word (fun z => by cases z)⟩, List.forall_mem_cons.mpr ⟨⟨rfl, am_dk_ok dk_B_sample (fun z => by cases z)⟩, List.forall_mem_cons.mpr ⟨⟨rfl, am_dk_ok dk_R_sampleAt (fun z => by cases z)⟩, List.forall_mem_cons.mpr ⟨⟨rfl, am_dk_ok dk_F_times (fun z => by cases z)⟩, List.forall_mem_cons.mpr ⟨⟨rfl, am_dk_ok dk_B_exchange (fun z => by cases z)⟩, List.forall_mem_cons.mpr ⟨⟨rfl, am_dk_ok dk_B_areTwoBanks (fun z => by cases z)⟩, List.forall_mem_cons.mpr ⟨⟨rfl, am_dk_ok dk_B_isReach (fun z => by cases z)⟩, List.forall_mem_cons.mpr ⟨⟨rfl, am_dk_ok dk_B_runExchange (fun z => by cases z)⟩, List.forall_mem_cons.mpr ⟨⟨rfl, am_dk_ok dk_A_find (fun z => by cases z)⟩, List.forall_mem_cons.mpr ⟨⟨rfl, am_dk_ok dk_A_takeSamples (fun z => by cases z)⟩, List.forall_mem_cons.mpr ⟨⟨rfl, am_dk_ok dk_Q_setRow (fun z => by cases z)⟩, List.forall_mem_cons.mpr ⟨⟨rfl, am_dk_ok dk_F_minus (fun z => by cases z)⟩, List.forall_mem_cons.mpr ⟨⟨rfl, am_dk_ok dk_F_plus (fun z => by cases z)⟩, List.forall_mem_cons.mpr ⟨⟨rfl, am_dk_ok dk_Q_solve (fun z => by cases z)⟩, List.forall_mem_cons.mpr ⟨⟨rfl, am_dk_ok dk_J_fill (fun z => by cases z)⟩, List.forall_mem_cons.mpr ⟨⟨rfl, am_dk_ok dk_Q_rowWithout0 (fun z => by cases z)⟩, List.forall_mem_cons.mpr ⟨⟨rfl, am_dk_ok dk_Q_swapRows (fun z => by cases z)⟩, List.forall_mem_cons.mpr ⟨⟨rfl, am_dk_ok dk_F_inverse (fun z => by cases z)⟩, List.forall_mem_cons.mpr ⟨⟨rfl, am_dk_ok dk_Q_scaleRow (fun z => by cases z)⟩, List.forall_mem_cons.mpr ⟨⟨rfl, am_dk_ok dk_Q_clearColumn (fun z => by cases z)⟩, List.forall_mem_cons.mpr ⟨⟨rfl, am_dk_ok dk_Q_rightSidesAre0 (fun z => by cases z)⟩, List.forall_mem_cons.mpr ⟨⟨rfl, am_dk_ok dk_Y_becomeSolution (fun z => by cases z)⟩, List.forall_mem_cons.mpr ⟨⟨rfl, am_dk_ok dk_Q_unknown (fun z => by cases z)⟩, List.forall_mem_cons.mpr ⟨⟨rfl, am_dk_ok dk_A_reduce (fun z => by cases z)⟩, List.forall_mem_cons.mpr ⟨⟨rfl, am_dk_ok dk_Y_become (fun z => by cases z)⟩, List.forall_mem_cons.mpr ⟨⟨rfl, am_dk_ok dk_Y_makeHighestOne (fun z => by cases z)⟩, List.forall_mem_cons.mpr ⟨⟨rfl, am_dk_ok dk_Y_becomeRemainder (fun z => by cases z)⟩, List.forall_mem_cons.mpr ⟨⟨rfl, am_dk_ok dk_Y_divideInPlace (fun z => by cases z)⟩, List.forall_mem_cons.mpr ⟨⟨rfl, am_dk_ok dk_Y_becomeQuotient (fun z => by cases z)⟩, List.forall_mem_cons.mpr ⟨⟨rfl, am_dk_ok dk_R_becomeZerosAmong (fun z => by cases z)⟩, List.forall_mem_cons.mpr ⟨⟨rfl, am_dk_ok dk_Y_valueAt (fun z => by cases z)⟩, List.forall_mem_cons.mpr ⟨⟨rfl, am_dk_ok dk_A_fitsSamples (fun z => by cases z)⟩, List.forall_mem_cons.mpr ⟨⟨rfl, am_dk_ok dk_B_deliverParcels (fun z => by cases z)⟩, List.forall_mem_cons.mpr ⟨⟨rfl, am_dk_ok dk_R_keepNewsFor (fun z => by cases z)⟩, List.forall_mem_cons.mpr ⟨⟨rfl, am_dk_ok dk_R_countWith (fun z => by cases z)⟩, List.forall_mem_cons.mpr ⟨⟨rfl, am_dk_ok dk_R_storeAll (fun z => by cases z)⟩, List.forall_mem_cons.mpr ⟨⟨rfl, am_dk_ok dk_B_list (fun z => by cases z)⟩, List.forall_mem_cons.mpr ⟨⟨rfl, am_dk_ok dk_B_runListing (fun z => by cases z)⟩, List.forall_mem_cons.mpr ⟨⟨rfl, am_dk_ok dk_R_becomeAllOf (fun z => by cases z)⟩, List.forall_mem_cons.mpr ⟨⟨rfl, am_dk_ok dk_B_settle (fun z => by cases z)⟩, List.forall_mem_cons.mpr ⟨⟨rfl, am_dk_ok dk_B_runSettling (fun z => by cases z)⟩, List.forall_mem_cons.mpr ⟨⟨rfl, am_dk_ok dk_B_spread (fun z => by cases z)⟩, List.forall_mem_cons.mpr ⟨⟨rfl, am_dk_ok dk_B_difference (fun z => by cases z)⟩, List.forall_mem_cons.mpr ⟨⟨rfl, am_dk_ok dk_R_wordsSharedWith (fun z => by cases z)⟩, List.forall_mem_cons.mpr ⟨⟨rfl, am_dk_ok dk_B_sent (fun z => by cases z)⟩, List.forall_mem_cons.mpr ⟨⟨rfl, am_dk_ok dk_B_degree (fun z => by cases z)⟩, List.forall_mem_cons.mpr ⟨⟨rfl, am_dk_ok dk_B_isPart (fun z => by cases z)⟩, List.forall_mem_cons.mpr ⟨⟨rfl, am_dk_ok dk_A_part (fun z => by cases z)⟩, List.forall_mem_cons.mpr ⟨⟨rfl, am_dk_ok dk_B_factor (fun z => by cases z)⟩, List.forall_mem_cons.mpr ⟨⟨rfl, am_dk_ok dk_M_init (fun _ => rfl)⟩, List.forall_mem_cons.mpr ⟨⟨rfl, am_dk_ok dk_M_put (fun z => by cases z)⟩, List.forall_mem_cons.mpr ⟨⟨rfl, am_dk_ok dk_M_isBank (fun z => by cases z)⟩, List.forall_mem_cons.mpr ⟨⟨rfl, am_dk_ok dk_M_isNumber (fun z => by cases z)⟩, List.forall_mem_cons.mpr ⟨⟨rfl, am_dk_ok dk_M_find (fun z => by cases z)⟩, List.forall_mem_cons.mpr ⟨⟨rfl, am_dk_ok dk_M_insert (fun z => by cases z)⟩, List.forall_mem_cons.mpr ⟨⟨rfl, am_dk_ok dk_M_drop (fun z => by cases z)⟩, List.forall_mem_cons.mpr ⟨⟨rfl, am_dk_ok dk_M_version (fun z => by cases z)⟩, List.forall_mem_cons.mpr ⟨⟨rfl, am_dk_ok dk_M_grams (fun z => by cases z)⟩, List.forall_mem_cons.mpr ⟨⟨rfl, am_dk_ok dk_M_size (fun z => by cases z)⟩, List.forall_mem_cons.mpr ⟨⟨rfl, am_dk_ok dk_M_word (fun z => by cases z)⟩, List.forall_mem_cons.mpr ⟨⟨rfl, am_dk_ok dk_M_wordAt (fun z => by cases z)⟩, List.forall_mem_cons.mpr ⟨⟨rfl, am_dk_ok dk_M_sample (fun z => by cases z)⟩, List.forall_mem_cons.mpr ⟨⟨rfl, am_dk_ok dk_M_sampleOf (fun z => by cases z)⟩, List.forall_mem_cons.mpr ⟨⟨rfl, am_dk_ok dk_M_point (fun z => by cases z)⟩, List.forall_mem_cons.mpr ⟨⟨rfl, am_dk_ok dk_M_mul (fun z => by cases z)⟩, List.forall_mem_cons.mpr ⟨⟨rfl, am_dk_ok dk_M_exchange (fun z => by cases z)⟩, List.forall_mem_cons.mpr ⟨⟨rfl, am_dk_ok dk_M_areTwo (fun z => by cases z)⟩, List.forall_mem_cons.mpr ⟨⟨rfl, am_dk_ok dk_M_isMany (fun z => by cases z)⟩, List.forall_mem_cons.mpr ⟨⟨rfl, am_dk_ok dk_M_exchanged (fun z => by cases z)⟩, List.forall_mem_cons.mpr ⟨⟨rfl, am_dk_ok dk_M_solved (fun z => by cases z)⟩, List.forall_mem_cons.mpr ⟨⟨rfl, am_dk_ok dk_M_allPairs (fun z => by cases z)⟩, List.forall_mem_cons.mpr ⟨⟨rfl, am_dk_ok dk_M_sift (fun z => by cases z)⟩, List.forall_mem_cons.mpr ⟨⟨rfl, am_dk_ok dk_M_valueOf (fun z => by cases z)⟩, List.forall_mem_cons.mpr ⟨⟨rfl, am_dk_ok dk_M_minus (fun z => by cases z)⟩, List.forall_mem_cons.mpr ⟨⟨rfl, am_dk_ok dk_M_inverse (fun z => by cases z)⟩, List.forall_mem_cons.mpr ⟨⟨rfl, am_dk_ok dk_M_take (fun z => by cases z)⟩, List.forall_mem_cons.mpr ⟨⟨rfl, am_dk_ok dk_M_removePair (fun z => by cases z)⟩, List.forall_mem_cons.mpr ⟨⟨rfl, am_dk_ok dk_M_choose (fun z => by cases z)⟩, List.forall_mem_cons.mpr ⟨⟨rfl, am_dk_ok dk_M_lead (fun z => by cases z)⟩, List.forall_mem_cons.mpr ⟨⟨rfl, am_dk_ok dk_M_scale (fun z => by cases z)⟩, List.forall_mem_cons.mpr ⟨⟨rfl, am_dk_ok dk_M_cancel (fun z => by cases z)⟩, List.forall_mem_cons.mpr ⟨⟨rfl, am_dk_ok dk_M_commonDivisor (fun z => by cases z)⟩, List.forall_mem_cons.mpr ⟨⟨rfl, am_dk_ok dk_M_divide (fun z => by cases z)⟩, List.forall_mem_cons.mpr ⟨⟨rfl, am_dk_ok dk_M_left (fun z => by cases z)⟩, List.forall_mem_cons.mpr ⟨⟨rfl, am_dk_ok dk_M_makePlain (fun z => by cases z)⟩, List.forall_mem_cons.mpr ⟨⟨rfl, am_dk_ok dk_M_checked (fun z => by cases z)⟩, List.forall_mem_cons.mpr ⟨⟨rfl, am_dk_ok dk_M_upAt (fun z => by cases z)⟩, List.forall_mem_cons.mpr ⟨⟨rfl, am_dk_ok dk_M_lowAt (fun z => by cases z)⟩, List.forall_mem_cons.mpr ⟨⟨rfl, am_dk_ok dk_M_offer (fun z => by cases z)⟩, List.forall_mem_cons.mpr ⟨⟨rfl, am_dk_ok dk_M_note (fun z => by cases z)⟩, List.forall_mem_cons.mpr ⟨⟨rfl, am_dk_ok dk_M_takeOver (fun z => by cases z)⟩, List.forall_mem_cons.mpr ⟨⟨rfl, am_dk_ok dk_M_list (fun z => by cases z)⟩, List.forall_mem_cons.mpr ⟨⟨rfl, am_dk_ok dk_M_listed (fun z => by cases z)⟩, List.forall_mem_cons.mpr ⟨⟨rfl, am_dk_ok dk_M_settle (fun z => by cases z)⟩, List.forall_mem_cons.mpr ⟨⟨rfl, am_dk_ok dk_M_settled (fun z => by cases z)⟩, List.forall_mem_cons.mpr ⟨⟨rfl, am_dk_ok dk_M_spread (fun z => by cases z)⟩, List.forall_mem_cons.mpr ⟨⟨rfl, am_dk_ok dk_M_difference (fun z => by cases z)⟩, List.forall_mem_cons.mpr ⟨⟨rfl, am_dk_ok dk_M_lacks (fun z => by cases z)⟩, List.forall_mem_cons.mpr ⟨⟨rfl, am_dk_ok dk_M_sent (fun z => by cases z)⟩, List.forall_mem_cons.mpr ⟨⟨rfl, am_dk_ok dk_M_degree (fun z => by cases z)⟩, List.forall_mem_cons.mpr ⟨⟨rfl, am_dk_ok dk_M_factor (fun z => by cases z)⟩, fun _ h => absurd h List.not_mem_nil⟩⟩⟩⟩⟩⟩⟩⟩⟩⟩⟩⟩⟩⟩⟩⟩⟩⟩⟩⟩⟩⟩⟩⟩⟩⟩⟩⟩⟩⟩⟩⟩⟩⟩⟩⟩⟩⟩⟩⟩⟩⟩⟩⟩⟩⟩⟩⟩⟩⟩⟩⟩⟩⟩⟩⟩⟩⟩⟩⟩⟩⟩⟩⟩⟩⟩⟩⟩⟩⟩⟩⟩⟩⟩⟩⟩⟩⟩⟩⟩⟩⟩⟩⟩⟩⟩⟩⟩⟩⟩⟩⟩⟩⟩⟩⟩⟩⟩⟩⟩⟩⟩⟩⟩⟩⟩⟩⟩⟩⟩⟩⟩⟩⟩⟩⟩⟩⟩⟩⟩⟩
theorem am_gM : am_GM Pg := fun j M h => am_gMl M (List.mem_of_getElem? h)
theorem gk0 : ∀ q ∈ am_Kt0, Cond.constantLong (am_CN 0) q.1 q.2 ∈ am_WS := List.forall_mem_cons.mpr ⟨(am_wsm (am_tb1 189 rfl) rfl), fun _ h => absurd h List.not_mem_nil⟩
theorem gk1 : ∀ q ∈ am_Kt1, Cond.constantLong (am_CN 1) q.1 q.2 ∈ am_WS := fun _ h => absurd h List.not_mem_nil
theorem gk2 : ∀ q ∈ am_Kt2, Cond.constantLong (am_CN 2) q.1 q.2 ∈ am_WS := fun _ h => absurd h List.not_mem_nil
theorem gk3 : ∀ q ∈ am_Kt3, Cond.constantLong (am_CN 3) q.1 q.2 ∈ am_WS := fun _ h => absurd h List.not_mem_nil
theorem gk4 : ∀ q ∈ am_Kt4, Cond.constantLong (am_CN 4) q.1 q.2 ∈ am_WS := List.forall_mem_cons.mpr ⟨(am_wsm (am_tb1 220 rfl) rfl), fun _ h => absurd h List.not_mem_nil⟩
theorem gk5 : ∀ q ∈ am_Kt5, Cond.constantLong (am_CN 5) q.1 q.2 ∈ am_WS := List.forall_mem_cons.mpr ⟨(am_wsm (am_tb3 58 rfl) rfl), List.forall_mem_cons.mpr ⟨(am_wsm (am_tb3 54 rfl) rfl), List.forall_mem_cons.mpr ⟨(am_wsm (am_tb3 159 rfl) rfl), fun _ h => absurd h List.not_mem_nil⟩⟩⟩
theorem gk6 : ∀ q ∈ am_Kt6, Cond.constantLong (am_CN 6) q.1 q.2 ∈ am_WS := List.forall_mem_cons.mpr ⟨(am_wsm (am_tb1 197 rfl) rfl), List.forall_mem_cons.mpr ⟨(am_wsm (am_tb2 11 rfl) rfl), fun _ h => absurd h List.not_mem_nil⟩⟩
theorem gk7 : ∀ q ∈ am_Kt7, Cond.constantLong (am_CN 7) q.1 q.2 ∈ am_WS := fun _ h => absurd h List.not_mem_nil
theorem gk8 : ∀ q ∈ am_Kt8, Cond.constantLong (am_CN 8) q.1 q.2 ∈ am_WS := fun _ h => absurd h List.not_mem_nil
theorem am_gK : ∀ (own k : Nat) (v : Int64), am_Kt own k = some v → Cond.constantLong (am_CN own) k v ∈ am_WS := by
  intro own k v h
  match own, h with
  | 0, h => exact gk0 _ (am_lku _ _ _ h)
  | 1, h => exact gk1 _ (am_lku _ _ _ h)
  | 2, h => exact gk2 _ (am_lku _ _ _ h)
  | 3, h => exact gk3 _ (am_lku _ _ _ h)
  | 4, h => exact gk4 _ (am_lku _ _ _ h)
  | 5, h => exact gk5 _ (am_lku _ _ _ h)
  | 6, h => exact gk6 _ (am_lku _ _ _ h)
  | 7, h => exact gk7 _ (am_lku _ _ _ h)
  | 8, h => exact gk8 _ (am_lku _ _ _ h)
  | _ + 9, h => cases h
def am_pS : Nat → Nat × Nat → Prop := fun own q => (q.2 < 3 → 1 ≤ q.2 ∧ Cond.fieldLink (am_CN own) q.1 (am_STt q.2).1 (am_STt q.2).2.1 (am_STt q.2).2.2 ∈ am_WS) ∧ (q.2 = 77 → Cond.classLink (am_CN own) q.1 "[[J" ∈ am_WS)
theorem gs0 : ∀ q ∈ am_St0, am_pS 0 q := List.forall_mem_cons.mpr ⟨⟨fun _ => ⟨by decide, (am_wsm (am_tb2 122 rfl) rfl)⟩, (fun z => absurd z (by decide))⟩, List.forall_mem_cons.mpr ⟨⟨fun _ => ⟨by decide, (am_wsm (am_tb2 124 rfl) rfl)⟩, (fun z => absurd z (by decide))⟩, fun _ h => absurd h List.not_mem_nil⟩⟩
theorem gs1 : ∀ q ∈ am_St1, am_pS 1 q := fun _ h => absurd h List.not_mem_nil
theorem gs2 : ∀ q ∈ am_St2, am_pS 2 q := fun _ h => absurd h List.not_mem_nil
theorem gs3 : ∀ q ∈ am_St3, am_pS 3 q := List.forall_mem_cons.mpr ⟨⟨(fun z => absurd z (by decide)), fun _ => (am_wsm (am_tb1 75 rfl) rfl)⟩, fun _ h => absurd h List.not_mem_nil⟩
theorem gs4 : ∀ q ∈ am_St4, am_pS 4 q := fun _ h => absurd h List.not_mem_nil
theorem gs5 : ∀ q ∈ am_St5, am_pS 5 q := fun _ h => absurd h List.not_mem_nil
theorem gs6 : ∀ q ∈ am_St6, am_pS 6 q := fun _ h => absurd h List.not_mem_nil
theorem gs7 : ∀ q ∈ am_St7, am_pS 7 q := fun _ h => absurd h List.not_mem_nil
theorem gs8 : ∀ q ∈ am_St8, am_pS 8 q := fun _ h => absurd h List.not_mem_nil
theorem am_gSt : ∀ own k x : Nat, am_St own k = some x → am_pS own (k, x) := by
  intro own k x h
  match own, h with
  | 0, h => exact gs0 _ (am_lku _ _ _ h)
  | 1, h => exact gs1 _ (am_lku _ _ _ h)
  | 2, h => exact gs2 _ (am_lku _ _ _ h)
  | 3, h => exact gs3 _ (am_lku _ _ _ h)
  | 4, h => exact gs4 _ (am_lku _ _ _ h)
  | 5, h => exact gs5 _ (am_lku _ _ _ h)
  | 6, h => exact gs6 _ (am_lku _ _ _ h)
  | 7, h => exact gs7 _ (am_lku _ _ _ h)
  | 8, h => exact gs8 _ (am_lku _ _ _ h)
  | _ + 9, h => cases h
theorem am_gS : am_GS Pg am_WS am_STt := ⟨fun own k x h h3 => (am_gSt own k x h).1 h3, fun own k h => (am_gSt own k 77 h).2 rfl, am_gK, (am_wsm (am_tb1 44 rfl) rfl), (am_wsm (am_tb1 68 rfl) rfl), (am_wsm (am_tb1 45 rfl) rfl)⟩
theorem am_gG : am_G Pg am_cls am_WS am_NW am_STt "SampledBanks$Records" := ⟨am_gNW, am_gF, am_gC, am_gN, am_gY, am_gM, am_gS, am_gW⟩
end
section
/-! Runs of the abstract machine, goal first -/
theorem am_fuel1 {P : am_P} {X : am_X} : ∀ (n d j pc : Nat) (ls : am_L) (st : List Value) (h : am_H) (x : Option Value × am_H), am_run P X n d j pc ls st h = some x → am_run P X (n + 1) d j pc ls st h = some x := by
  intro n
  induction n with
  | zero => intro d j pc ls st h x hr; cases hr
  | succ n ih =>
    intro d j pc ls st h x hr
    rw [am_run] at hr
    rw [am_run]
    split at hr
    next => cases hr
    next M hM =>
      (try simp only [hM])
      split at hr
      next i len hi =>
        (try simp only [hi])
        split at hr
        next pc' ls' st' hp =>
          (try simp only [hp])
          exact ih _ _ _ _ _ _ _ hr
        next hp =>
          (try simp only [hp])
          split at hr
          next pc' ls' st' h1 hh =>
            (try simp only [hh])
            split at hr
            next hm =>
              (try rw [if_pos hm])
              exact ih _ _ _ _ _ _ _ hr
            next => cases hr
          next hh =>
            (try simp only [hh])
            split at hr
            next r0 hc =>
              (try simp only [hc])
              exact hr
            next j2 as st' hc =>
              (try simp only [hc])
              split at hr
              next => cases hr
              next d1 =>
                split at hr
                next => cases hr
                next M2 hM2 =>
                  (try simp only [hM2])
                  split at hr
                  next hle =>
                    (try rw [if_pos hle])
                    split at hr
                    next => cases hr
                    next r1 h1 hrun =>
                      simp only [ih _ _ _ _ _ _ _ hrun]
                      split at hr
                      next hcl =>
                        (try rw [if_pos hcl])
                        exact ih _ _ _ _ _ _ _ hr
                      next => cases hr
                  next => cases hr
            next => cases hr
      next => cases hr
theorem am_fuel {P : am_P} {X : am_X} {n k d j pc : Nat} {ls : am_L} {st : List Value} {h : am_H} {x : Option Value × am_H} (hr : am_run P X n d j pc ls st h = some x) (hk : n ≤ k) : am_run P X k d j pc ls st h = some x := by
  obtain ⟨q, rfl⟩ : ∃ q, k = n + q := ⟨k - n, by omega⟩
  clear hk
  induction q with
  | zero => exact hr
  | succ q ih => exact am_fuel1 _ _ _ _ _ _ _ _ ih
def ar (P : am_P) (X : am_X) (d j pc : Nat) (ls : am_L) (st : List Value) (h : am_H) (Q : Option Value → am_H → Prop) : Prop := ∃ (n : Nat) (r : Option Value) (h' : am_H), am_run P X n d j pc ls st h = some (r, h') ∧ Q r h'
theorem am_in_ix {i : Int32} {n : Nat} (h : vp_in i n) : am_ix i n = true := by
  unfold am_ix
  exact decide_eq_true (show ¬ (i < 0 ∨ n ≤ i.toNatClampNeg) from h)
/-- the same cells, of the same sizes, but those listed -/
def fr (l : List Nat) (h h1 : am_H) : Prop := h1.map am_se = h.map am_se ∧ ∀ k, k ∉ l → h1[k]? = h[k]?
theorem fr.rf (l : List Nat) (h : am_H) : fr l h h := ⟨rfl, fun _ _ => rfl⟩
theorem fr.len {l : List Nat} {h h1 : am_H} (f : fr l h h1) : h1.length = h.length := by
  have := congrArg List.length f.1
  simpa using this
theorem fr.tr {l l1 l2 : List Nat} {h h1 h2 : am_H} (f1 : fr l1 h h1) (f2 : fr l2 h1 h2) (s1 : ∀ k ∈ l1, k ∈ l) (s2 : ∀ k ∈ l2, k ∈ l) : fr l h h2 :=
  ⟨f2.1.trans f1.1, fun k hk => (f2.2 k (fun z => hk (s2 k z))).trans (f1.2 k (fun z => hk (s1 k z)))⟩
theorem fr.mono {l l1 : List Nat} {h h1 : am_H} (f : fr l1 h h1) (s : ∀ k ∈ l1, k ∈ l) : fr l h h1 := ⟨f.1, fun k hk => f.2 k (fun z => hk (s k z))⟩
theorem fr.at {l : List Nat} {h h1 : am_H} (f : fr l h h1) {k : Nat} {e : am_E} (hk : h[k]? = some e) (hn : k ∉ l) : h1[k]? = some e := (f.2 k hn).trans hk
theorem fr.sz {l : List Nat} {h h1 : am_H} (f : fr l h h1) : am_sz h1 = am_sz h := congrArg List.sum f.1
section AR
variable {P : am_P} {X : am_X} {d j pc pc' len : Nat} {M : am_M} {ls ls' : am_L} {st st' : List Value} {h h1 : am_H} {Q Q' : Option Value → am_H → Prop} {i : Instr}
theorem ar_mono (k : ar P X d j pc ls st h Q) (hq : ∀ r h', Q r h' → Q' r h') : ar P X d j pc ls st h Q' := by
  obtain ⟨n, r, h', h1, h2⟩ := k
  exact ⟨n, r, h', h1, hq r h' h2⟩
theorem ar_P (hM : P.1[j]? = some M) (hi : M.2.2.2.2.2[pc]? = some (some (i, len))) (hp : am_exP P X d M i pc ls st h = some (pc', ls', st')) (k : ar P X d j pc' ls' st' h Q) : ar P X d j pc ls st h Q := by
  obtain ⟨n, r, h', h1, h2⟩ := k
  exact ⟨n + 1, r, h', by rw [am_run]; simp only [hM, hi, hp]; exact h1, h2⟩
/-- several instructions that change no cell and read none that isn't known -/
def am_go (P : am_P) (X : am_X) (d : Nat) (M : am_M) (h : am_H) : Nat → Nat → am_L → List Value → Option am_R
  | 0, pc, ls, st => some (pc, ls, st)
  | n + 1, pc, ls, st => match M.2.2.2.2.2[pc]? with
    | some (some (i, _)) => match am_exP P X d M i pc ls st h with
      | some (pc', ls', st') => am_go P X d M h n pc' ls' st'
      | none => none
    | _ => none
theorem ar_go (hM : P.1[j]? = some M) : ∀ (n pc pc' : Nat) (ls ls' : am_L) (st st' : List Value), am_go P X d M h n pc ls st = some (pc', ls', st') → ar P X d j pc' ls' st' h Q → ar P X d j pc ls st h Q := by
  intro n
  induction n with
  | zero =>
    intro pc pc' ls ls' st st' hg k
    cases hg
    exact k
  | succ n ih =>
    intro pc pc' ls ls' st st' hg k
    rw [am_go] at hg
    split at hg
    next i len hi =>
      split at hg
      next pc1 ls1 st1 hp => exact ar_P hM hi hp (ih _ _ _ _ _ _ hg k)
      next => cases hg
    next => cases hg
theorem ar_H (hM : P.1[j]? = some M) (hi : M.2.2.2.2.2[pc]? = some (some (i, len))) (hp : am_exP P X d M i pc ls st h = none) (hh : am_exH P d M i pc ls st h = some (pc', ls', st', h1)) (hm : h.length ≤ h1.length ∧ am_sz h ≤ am_sz h1) (k : ar P X d j pc' ls' st' h1 Q) : ar P X d j pc ls st h Q := by
  obtain ⟨n, r, h', e1, e2⟩ := k
  exact ⟨n + 1, r, h', by rw [am_run]; simp only [hM, hi, hp, hh, if_pos hm]; exact e1, e2⟩
theorem ar_R {r : Option Value} (hM : P.1[j]? = some M) (hi : M.2.2.2.2.2[pc]? = some (some (i, len))) (hp : am_exP P X d M i pc ls st h = none) (hh : am_exH P d M i pc ls st h = none) (hc : am_exC P M i st h = some (.inl r)) (k : Q r h) : ar P X d j pc ls st h Q :=
  ⟨1, r, h, by rw [am_run]; simp only [hM, hi, hp, hh, hc], k⟩
theorem ar_C {j2 : Nat} {M2 : am_M} {as : List Value} {Q1 : Option Value → am_H → Prop} (hM : P.1[j]? = some M) (hi : M.2.2.2.2.2[pc]? = some (some (i, len))) (hp : am_exP P X (d + 1) M i pc ls st h = none) (hh : am_exH P (d + 1) M i pc ls st h = none) (hc : am_exC P M i st h = some (.inr (j2, as, st'))) (hM2 : P.1[j2]? = some M2) (hen : (am_en as).length ≤ M2.2.2.1)
    (hcall : ar P X d j2 0 (am_pad M2.2.2.1 (am_en as)) [] h Q1) (k : ∀ r h1, Q1 r h1 → h1.length = h.length ∧ ar P X (d + 1) j (pc + 3) ls (r.toList ++ st') h1 Q) : ar P X (d + 1) j pc ls st h Q := by
  obtain ⟨n1, r1, h1, e1, e2⟩ := hcall
  obtain ⟨hlen, n2, r2, h2, e3, e4⟩ := k r1 h1 e2
  refine ⟨max n1 n2 + 1, r2, h2, ?_, e4⟩
  rw [am_run]
  simp only [hM, hi, hp, hh, hc, hM2, if_pos hen, am_fuel e1 (Nat.le_max_left n1 n2), if_pos (Or.inl hlen : h1.length = h.length ∨ _)]
  exact am_fuel e3 (Nat.le_max_right n1 n2)
/-- the same, where cells may have been made: nothing at hand that isn't known -/
theorem ar_CN {j2 : Nat} {M2 : am_M} {as : List Value} {Q1 : Option Value → am_H → Prop} (hM : P.1[j]? = some M) (hi : M.2.2.2.2.2[pc]? = some (some (i, len))) (hp : am_exP P X (d + 1) M i pc ls st h = none) (hh : am_exH P (d + 1) M i pc ls st h = none) (hc : am_exC P M i st h = some (.inr (j2, as, st'))) (hM2 : P.1[j2]? = some M2) (hen : (am_en as).length ≤ M2.2.2.1) (hcl : (am_co h.length ls && am_cs h.length st' && decide (h.length < 1000)) = true)
    (hcall : ar P X d j2 0 (am_pad M2.2.2.1 (am_en as)) [] h Q1) (k : ∀ r h1, Q1 r h1 → ar P X (d + 1) j (pc + 3) ls (r.toList ++ st') h1 Q) : ar P X (d + 1) j pc ls st h Q := by
  obtain ⟨n1, r1, h1, e1, e2⟩ := hcall
  obtain ⟨n2, r2, h2, e3, e4⟩ := k r1 h1 e2
  refine ⟨max n1 n2 + 1, r2, h2, ?_, e4⟩
  rw [am_run]
  simp only [hM, hi, hp, hh, hc, hM2, if_pos hen, am_fuel e1 (Nat.le_max_left n1 n2), if_pos (Or.inr hcl : h1.length = h.length ∨ _)]
  exact am_fuel e3 (Nat.le_max_right n1 n2)
/-- a field is read -/
theorem ar_get {k kd ci i0 t a : Nat} {fs : List Value} {v : Value} {r : List Value} (hM : P.1[j]? = some M) (hi : M.2.2.2.2.2[pc]? = some (some (.getfield k, len))) (hF : P.2.1 M.2.2.2.2.1 k = some (kd, ci, i0, t)) (hh : h[a]? = some (.inr (ci, fs))) (hv : fs[i0]? = some v) (kk : ar P X d j (pc + 3) ls (v :: r) h Q) : ar P X d j pc ls (.ref a :: r) h Q :=
  ar_P hM hi (by simp only [am_exP, am_get, hF, hh, hv, if_true]; rfl) kk
theorem ar_iald {n a : Nat} {f : Nat → Int32} {i0 : Int32} {r : List Value} (hM : P.1[j]? = some M) (hi : M.2.2.2.2.2[pc]? = some (some (.iaload, len))) (ha : a < am_x0) (hh : h[a]? = some (.inl (0, n, .inl f))) (hin : vp_in i0 n) (kk : ar P X d j (pc + 1) ls (.int (f i0.toNatClampNeg) :: r) h Q) : ar P X d j pc ls (.int i0 :: .ref a :: r) h Q :=
  ar_P hM hi (by simp only [am_exP, am_iald, if_neg (Nat.not_le.mpr ha), hh, true_and]; rw [if_pos (am_in_ix hin)]; rfl) kk
theorem ar_xald {a : Nat} {i0 : Int32} {r : List Value} (hM : P.1[j]? = some M) (hi : M.2.2.2.2.2[pc]? = some (some (.iaload, len))) (ha : a < 3) (hin : vp_in i0 (X a).1) (kk : ar P X d j (pc + 1) ls (.int ((X a).2 i0.toNatClampNeg) :: r) h Q) : ar P X d j pc ls (.int i0 :: .ref (am_x0 + a) :: r) h Q :=
  ar_P hM hi (by simp only [am_exP, am_iald, if_pos (Nat.le_add_right am_x0 a), Nat.add_sub_cancel_left]; rw [if_pos ⟨Nat.add_lt_add_left ha _, am_in_ix hin⟩]; rfl) kk
theorem ar_zald {n a : Nat} {f : Nat → Int32} {i0 : Int32} {r : List Value} (hM : P.1[j]? = some M) (hi : M.2.2.2.2.2[pc]? = some (some (.baload, len))) (hh : h[a]? = some (.inl (2, n, .inl f))) (hin : vp_in i0 n) (kk : ar P X d j (pc + 1) ls (.int (f i0.toNatClampNeg) :: r) h Q) : ar P X d j pc ls (.int i0 :: .ref a :: r) h Q :=
  ar_P hM hi (by simp only [am_exP, am_zald, hh, true_and]; rw [if_pos (am_in_ix hin)]; rfl) kk
theorem ar_lald {n a : Nat} {f : Nat → Int64} {i0 : Int32} {r : List Value} (hM : P.1[j]? = some M) (hi : M.2.2.2.2.2[pc]? = some (some (.laload, len))) (hh : h[a]? = some (.inl (1, n, .inr (.inl f)))) (hin : vp_in i0 n) (kk : ar P X d j (pc + 1) ls (.long (f i0.toNatClampNeg) :: r) h Q) : ar P X d j pc ls (.int i0 :: .ref a :: r) h Q :=
  ar_P hM hi (by simp only [am_exP, am_lald, hh, true_and]; rw [if_pos (am_in_ix hin)]; rfl) kk
theorem ar_aald {t n a b : Nat} {f : Nat → Option Nat} {i0 : Int32} {r : List Value} (hM : P.1[j]? = some M) (hi : M.2.2.2.2.2[pc]? = some (some (.aaload, len))) (hh : h[a]? = some (.inl (t, n, .inr (.inr (.inr (.inr f)))))) (ht : t = 3 ∨ t = 4) (hin : vp_in i0 n) (hb : f i0.toNatClampNeg = some b) (kk : ar P X d j (pc + 1) ls (.ref b :: r) h Q) : ar P X d j pc ls (.int i0 :: .ref a :: r) h Q :=
  ar_P hM hi (by simp only [am_exP, am_aald, hh]; rw [if_pos ⟨ht, am_in_ix hin⟩, hb]; rfl) kk
theorem ar_alen {t n a : Nat} {c : (Nat → Int32) ⊕ (Nat → Int64) ⊕ (Nat → UInt32) ⊕ (Nat → UInt64) ⊕ (Nat → Option Nat)} {r : List Value} (hM : P.1[j]? = some M) (hi : M.2.2.2.2.2[pc]? = some (some (.arraylength, len))) (ha : a < am_x0) (hh : h[a]? = some (.inl (t, n, c))) (ht : t < 5) (kk : ar P X d j (pc + 1) ls (.int (nI n) :: r) h Q) : ar P X d j pc ls (.ref a :: r) h Q :=
  ar_P hM hi (by simp only [am_exP, am_alen, if_neg (Nat.not_le.mpr ha), hh, if_pos ht]; rfl) kk
-- cells that change: the new heap gets a name
theorem am_map_set {h : am_H} {a : Nat} {e0 e : am_E} (ha : h[a]? = some e0) (he : am_se e = am_se e0) : (h.set a e).map am_se = h.map am_se := by
  rw [List.map_set]
  apply List.ext_getElem?
  intro k
  rw [List.getElem?_set]
  by_cases hk : a = k
  · subst hk
    rw [if_pos rfl]
    have hl := (List.getElem?_eq_some_iff.mp ha).1
    rw [List.length_map, if_pos hl, List.getElem?_map, ha, he]
    rfl
  · rw [if_neg hk]
theorem am_sz_set {h : am_H} {a : Nat} {e0 e : am_E} (ha : h[a]? = some e0) (he : am_se e = am_se e0) : am_sz (h.set a e) = am_sz h := congrArg List.sum (am_map_set ha he)
theorem ar_set {a : Nat} {e0 e : am_E} (hM : P.1[j]? = some M) (hi : M.2.2.2.2.2[pc]? = some (some (i, len))) (hp : am_exP P X d M i pc ls st h = none) (hh : am_exH P d M i pc ls st h = some (pc', ls', st', h.set a e)) (ha : h[a]? = some e0) (he : am_se e = am_se e0)
    (k : ∀ h1 : am_H, fr [a] h h1 → h1[a]? = some e → ar P X d j pc' ls' st' h1 Q) : ar P X d j pc ls st h Q :=
  ar_H hM hi hp hh ⟨by simp, by rw [am_sz_set ha he]; exact Nat.le_refl _⟩ (k _ ⟨am_map_set ha he, fun b hb => List.getElem?_set_ne (fun z => hb (by rw [z]; exact List.mem_singleton.mpr rfl))⟩ (List.getElem?_set_self (List.getElem?_eq_some_iff.mp ha).1))
theorem ar_put {k kd ci i0 t a : Nat} {fs : List Value} {v : Value} {r : List Value} (hM : P.1[j]? = some M) (hi : M.2.2.2.2.2[pc]? = some (some (.putfield k, len))) (hF : P.2.1 M.2.2.2.2.1 k = some (kd, ci, i0, t)) (hh : h[a]? = some (.inr (ci, fs))) (hv : i0 < fs.length) (ht : am_vt t v = true) (hk : kd < 3)
    (kk : ∀ h1 : am_H, fr [a] h h1 → h1[a]? = some (.inr (ci, fs.set i0 v)) → ar P X d j (pc + 3) ls r h1 Q) : ar P X d j pc ls (v :: .ref a :: r) h Q :=
  ar_set (e := .inr (ci, fs.set i0 v)) hM hi rfl (by simp only [am_exH, am_put, hF, hh]; rw [if_pos ⟨trivial, hv, ht, hk⟩]; rfl) hh (by simp [am_se]) kk
theorem ar_iast {n a : Nat} {f : Nat → Int32} {i0 x : Int32} {r : List Value} (hM : P.1[j]? = some M) (hi : M.2.2.2.2.2[pc]? = some (some (.iastore, len))) (hh : h[a]? = some (.inl (0, n, .inl f))) (hin : vp_in i0 n)
    (kk : ∀ h1 : am_H, fr [a] h h1 → h1[a]? = some (.inl (0, n, .inl (upd f i0.toNatClampNeg x))) → ar P X d j (pc + 1) ls r h1 Q) : ar P X d j pc ls (.int x :: .int i0 :: .ref a :: r) h Q :=
  ar_set (e := .inl (0, n, .inl (upd f i0.toNatClampNeg x))) hM hi rfl (by simp only [am_exH, am_iast, hh]; rw [if_pos ⟨trivial, am_in_ix hin⟩]; rfl) hh rfl kk
theorem ar_zast {n a : Nat} {f : Nat → Int32} {i0 x : Int32} {r : List Value} (hM : P.1[j]? = some M) (hi : M.2.2.2.2.2[pc]? = some (some (.bastore, len))) (hh : h[a]? = some (.inl (2, n, .inl f))) (hin : vp_in i0 n)
    (kk : ∀ h1 : am_H, fr [a] h h1 → h1[a]? = some (.inl (2, n, .inl (upd f i0.toNatClampNeg (vp_nar .boolean x)))) → ar P X d j (pc + 1) ls r h1 Q) : ar P X d j pc ls (.int x :: .int i0 :: .ref a :: r) h Q :=
  ar_set (e := .inl (2, n, .inl (upd f i0.toNatClampNeg (vp_nar .boolean x)))) hM hi rfl (by simp only [am_exH, am_zast, hh]; rw [if_pos ⟨trivial, am_in_ix hin⟩]; rfl) hh rfl kk
theorem ar_last {n a : Nat} {f : Nat → Int64} {i0 : Int32} {x : Int64} {r : List Value} (hM : P.1[j]? = some M) (hi : M.2.2.2.2.2[pc]? = some (some (.lastore, len))) (hh : h[a]? = some (.inl (1, n, .inr (.inl f)))) (hin : vp_in i0 n)
    (kk : ∀ h1 : am_H, fr [a] h h1 → h1[a]? = some (.inl (1, n, .inr (.inl (vp_updL f i0.toNatClampNeg x)))) → ar P X d j (pc + 1) ls r h1 Q) : ar P X d j pc ls (.long x :: .int i0 :: .ref a :: r) h Q :=
  ar_set (e := .inl (1, n, .inr (.inl (vp_updL f i0.toNatClampNeg x)))) hM hi rfl (by simp only [am_exH, am_last, hh]; rw [if_pos ⟨trivial, am_in_ix hin⟩]; rfl) hh rfl kk
-- branches
theorem ar_if {c : ClassFile.Cond} {off : Int} {t : Nat} {x : Int32} {r : List Value} (hM : P.1[j]? = some M) (hi : M.2.2.2.2.2[pc]? = some (some (.ifCond c off, len))) (ht : am_tg pc off = some t) (k1 : am_c2 c x 0 = true → ar P X d j t ls r h Q) (k2 : am_c2 c x 0 = false → ar P X d j (pc + 3) ls r h Q) : ar P X d j pc ls (.int x :: r) h Q := by
  cases hc : am_c2 c x 0 with
  | true => exact ar_P hM hi (by simp only [am_exP, ht, hc, if_true]; rfl) (k1 hc)
  | false => exact ar_P hM hi (by simp only [am_exP, ht, hc]; rfl) (k2 hc)
theorem ar_icmp {c : ClassFile.Cond} {off : Int} {t : Nat} {x y : Int32} {r : List Value} (hM : P.1[j]? = some M) (hi : M.2.2.2.2.2[pc]? = some (some (.if_icmp c off, len))) (ht : am_tg pc off = some t) (k1 : am_c2 c x y = true → ar P X d j t ls r h Q) (k2 : am_c2 c x y = false → ar P X d j (pc + 3) ls r h Q) : ar P X d j pc ls (.int y :: .int x :: r) h Q := by
  cases hc : am_c2 c x y with
  | true => exact ar_P hM hi (by simp only [am_exP, ht, hc, if_true]; rfl) (k1 hc)
  | false => exact ar_P hM hi (by simp only [am_exP, ht, hc]; rfl) (k2 hc)
theorem ar_idiv {x y : Int32} {r : List Value} (hM : P.1[j]? = some M) (hi : M.2.2.2.2.2[pc]? = some (some (.idiv, len))) (hy : ¬ y = 0) (k : ar P X d j (pc + 1) ls (.int (x / y) :: r) h Q) : ar P X d j pc ls (.int y :: .int x :: r) h Q :=
  ar_P hM hi (by simp only [am_exP, am_i2, if_neg hy]; rfl) k
theorem ar_irem {x y : Int32} {r : List Value} (hM : P.1[j]? = some M) (hi : M.2.2.2.2.2[pc]? = some (some (.irem, len))) (hy : ¬ y = 0) (k : ar P X d j (pc + 1) ls (.int (x - x / y * y) :: r) h Q) : ar P X d j pc ls (.int y :: .int x :: r) h Q :=
  ar_P hM hi (by simp only [am_exP, am_i2, if_neg hy]; rfl) k
theorem ar_lrem {x y : Int64} {r : List Value} (hM : P.1[j]? = some M) (hi : M.2.2.2.2.2[pc]? = some (some (.lrem, len))) (hy : ¬ y = 0) (k : ar P X d j (pc + 1) ls (.long (x - x / y * y) :: r) h Q) : ar P X d j pc ls (.long y :: .long x :: r) h Q :=
  ar_P hM hi (by simp only [am_exP, am_l2, if_neg hy]; rfl) k
theorem ar_top {v w : Value} {r : List Value} (e : v = w) (k : ar P X d j pc ls (w :: r) h Q) : ar P X d j pc ls (v :: r) h Q := by rw [e]; exact k
theorem ar_aast {n a v : Nat} {f : Nat → Option Nat} {i0 : Int32} {r : List Value} (hM : P.1[j]? = some M) (hi : M.2.2.2.2.2[pc]? = some (some (.aastore, len))) (hh : h[a]? = some (.inl (3, n, .inr (.inr (.inr (.inr f)))))) {k2 : Nat} {g : Nat → Int64} (hv : h[v]? = some (.inl (1, k2, .inr (.inl g)))) (hin : vp_in i0 n)
    (kk : ∀ h1 : am_H, fr [a] h h1 → h1[a]? = some (.inl (3, n, .inr (.inr (.inr (.inr (va_up f i0.toNatClampNeg (some v))))))) → ar P X d j (pc + 1) ls r h1 Q) : ar P X d j pc ls (.ref v :: .int i0 :: .ref a :: r) h Q :=
  ar_set (e := .inl (3, n, .inr (.inr (.inr (.inr (va_up f i0.toNatClampNeg (some v))))))) hM hi rfl (by simp only [am_exH, am_aast, hh, hv]; rw [if_pos ⟨trivial, trivial, am_in_ix hin⟩]; rfl) hh rfl kk
theorem ar_cpyl {k j0 na ci n0 n1 a b : Nat} {f g : Nat → Int64} {sp dp n : Int32} {r : List Value} (hM : P.1[j]? = some M) (hi : M.2.2.2.2.2[pc]? = some (some (.invokestatic k, len))) (hY : P.2.2.1 M.2.2.2.2.1 k = some (7, j0, na, ci)) (hd : 0 < d) (hw : am_w r ≤ 8) (ha : h[a]? = some (.inl (1, n0, .inr (.inl f)))) (hb : h[b]? = some (.inl (1, n1, .inr (.inl g)))) (h1 : ¬ sp < 0) (h2 : ¬ dp < 0) (h3 : ¬ n < 0) (h4 : sp.toNatClampNeg + n.toNatClampNeg ≤ n0) (h5 : dp.toNatClampNeg + n.toNatClampNeg ≤ n1)
    (kk : ∀ h1 : am_H, fr [b] h h1 → h1[b]? = some (.inl (1, n1, .inr (.inl (va_cpy f g sp.toNatClampNeg dp.toNatClampNeg n.toNatClampNeg)))) → ar P X d j (pc + 3) ls r h1 Q) : ar P X d j pc ls (.int n :: .int dp :: .ref b :: .int sp :: .ref a :: r) h Q :=
  ar_set (e := .inl (1, n1, .inr (.inl (va_cpy f g sp.toNatClampNeg dp.toNatClampNeg n.toNatClampNeg)))) hM hi (by simp only [am_exP, am_min, hY]) (by simp only [am_exH, am_cpy, hY, ha, hb]; rw [if_pos ⟨hd, hw, h1, h2, h3, h4, h5⟩]; rfl) hb rfl kk
theorem ar_mmin {k j0 na ci : Nat} {x y z : Int32} {r : List Value} (hM : P.1[j]? = some M) (hi : M.2.2.2.2.2[pc]? = some (some (.invokestatic k, len))) (hY : P.2.2.1 M.2.2.2.2.1 k = some (6, j0, na, ci)) (hd : 0 < d) (hw : am_w r ≤ 8) (hz : (if y < x then y else x) = z) (kk : ar P X d j (pc + 3) ls (.int z :: r) h Q) : ar P X d j pc ls (.int y :: .int x :: r) h Q :=
  ar_P hM hi (by simp only [am_exP, am_min, hY]; rw [if_pos ⟨hd, hw⟩, hz]; rfl) kk
/-- an answer -/
theorem ar_ret {r : Option Value} (hM : P.1[j]? = some M) (hi : M.2.2.2.2.2[pc]? = some (some (i, len))) (hp : am_exP P X d M i pc ls st h = none) (hh : am_exH P d M i pc ls st h = none) (hc : am_exC P M i st h = some (.inl r)) (k : Q r h) : ar P X d j pc ls st h Q := ar_R hM hi hp hh hc k
theorem ar_zret {v : Int32} (hM : P.1[j]? = some M) (hi : M.2.2.2.2.2[pc]? = some (some (.ireturn, len))) (ht : M.2.2.2.1 = some .boolean) (hv : v = 0 ∨ v = 1) (k : Q (some (.int v)) h) : ar P X d j pc ls [.int v] h Q :=
  ar_R (r := some (.int v)) hM hi rfl rfl (by simp only [am_exC, ht, am_ret]; rw [if_pos hv]; rfl) k
/-- a call of an object's method -/
theorem ar_CV {k kd j2 na ci o : Nat} {fs bs r : List Value} {M2 : am_M} {Q1 : Option Value → am_H → Prop} (hM : P.1[j]? = some M) (hi : M.2.2.2.2.2[pc]? = some (some (.invokevirtual k, len))) (hY : P.2.2.1 M.2.2.2.2.1 k = some (kd, j2, na, ci)) (hkd : kd = 1 ∨ kd = 2) (hdr : st.drop na = .ref o :: r) (htk : (st.take na).reverse = bs) (hw : am_w r ≤ 8) (hh : h[o]? = some (.inr (ci, fs))) (hM2 : P.1[j2]? = some M2) (hen : (am_en (.ref o :: bs)).length ≤ M2.2.2.1)
    (hcall : ar P X d j2 0 (am_pad M2.2.2.1 (am_en (.ref o :: bs))) [] h Q1) (kk : ∀ r1 h1, Q1 r1 h1 → h1.map am_se = h.map am_se ∧ ar P X (d + 1) j (pc + 3) ls (r1.toList ++ r) h1 Q) : ar P X (d + 1) j pc ls st h Q := by
  refine ar_C hM hi rfl rfl ?_ hM2 hen hcall (fun r1 h1 hq => ⟨?_, (kk r1 h1 hq).2⟩)
  · simp only [am_exC, am_cvi, hY, hdr]
    rw [if_pos ⟨hkd, hw, by simp [am_rc, hh]⟩, htk]
    rfl
  · have := congrArg List.length (kk r1 h1 hq).1
    simpa using this
/-- a call of a static method -/
theorem ar_CS {k j2 na ci : Nat} {bs r : List Value} {M2 : am_M} {Q1 : Option Value → am_H → Prop} (hM : P.1[j]? = some M) (hi : M.2.2.2.2.2[pc]? = some (some (.invokestatic k, len))) (hY : P.2.2.1 M.2.2.2.2.1 k = some (0, j2, na, ci)) (hna : na ≤ st.length) (hdr : st.drop na = r) (htk : (st.take na).reverse = bs) (hw : am_w r ≤ 8) (hM2 : P.1[j2]? = some M2) (hen : (am_en bs).length ≤ M2.2.2.1)
    (hcall : ar P X d j2 0 (am_pad M2.2.2.1 (am_en bs)) [] h Q1) (kk : ∀ r1 h1, Q1 r1 h1 → h1.map am_se = h.map am_se ∧ ar P X (d + 1) j (pc + 3) ls (r1.toList ++ r) h1 Q) : ar P X (d + 1) j pc ls st h Q := by
  subst hdr
  subst htk
  refine ar_C hM hi (by simp only [am_exP, am_min, hY]) (by simp only [am_exH, am_cpy, hY]) ?_ hM2 hen hcall (fun r1 h1 hq => ⟨?_, (kk r1 h1 hq).2⟩)
  · simp only [am_exC, am_cst, hY]
    rw [if_pos ⟨hna, hw⟩]
    rfl
  · have := congrArg List.length (kk r1 h1 hq).1
    simpa using this
end AR
end
section
/-! THE CLAIM OUT OF ONE WALK OF THE LAW'S BODY. Your part is whole_start (and what it stands on); all else here is the same for every law, but numbers. -/
def R_law : String := "SampledBanksLaw"
def lw_P (b : Addr) (xs : List Int32) (args : Array Value) (s : State) : Prop := args = #[.ref b] ∧ s.IntsAt b xs ∧ xs.length ≤ 2048 ∧ (Jvm.Cond.and given_1 narrow_1).before args s = true
def lw_Q (_ : Array Value) (s : State) (o : Outcome) (t : State) : Prop := o = .returned (some (.int 1)) ∧ Framed s o t [] 600000 7302250
def lw_Z (below : List Frame) (a : Array Value) (s : State) : State → Prop := fun t => ∃ o, t.status = .running ∧ Ended t below o ∧ lw_Q a s o t
/-- the law's own end, with 1 on the stack, nothing written that was there before, its room as the claim has it -/
theorem lw_ret {p : Program} {l : Launch} {e : Env} {s : State} {m : MethodId} {below : List Frame} {meth : Method} {c : Code} {b : Nat} (hx : p.tables.exec = Jvm.exec) (hb : c.code = code) (hr : meth.sig.returnType = ret) (hlocks : meth.locks = false) {pc : Nat} {H : Heap} {ls : Array Slot} (hdg : decode code pc = .ok (.ireturn, 1)) : W p l e room_1 s m #[Value.ref b] below meth c H [] 600000 7302250 (lw_Z below #[Value.ref b] s) (F0 m pc ls [.int 1]) := by
  intro T hT X
  obtain ⟨fs, hret, hrun, hended, hW, hframe⟩ := X.leave (v := some (.int 1)) (hlocks := hlocks) (fun h => by rw [hr] at h; cases h)
  have hmeth' : T.vm.method? m = some meth := X.method'
  refine ⟨T.setFrames fs, ?_, .returned (some (.int 1)), hrun, hended, rfl, ⟨_, rfl⟩, hW, hframe⟩
  jvm_step X.here [X.here.top, hx, hb, hdg, hmeth', hr, ret, narrow_b1]
  (try refine ⟨rfl, ?_⟩); (try refine ⟨rfl, ?_⟩)
  first | (intro acts; rw [hret _ acts rfl rfl rfl]) | rw [hret _ _ rfl rfl rfl]
  exact Steps.refl _
/-- what holds at the law's entry: the machine, the code, the tables' words (any of lw_tbl by 'hts w (by decide +kernel)'), the script of L ints xs at the cell b, what the Statement gives of the start (any of its parts by flat_of_before) -/
def lw_At (p : Program) (s : State) (m : MethodId) (meth : Method) (c : Code) (b L : Nat) (xs : Nat → Int32) : Prop :=
  p.tables.exec = Jvm.exec ∧ c.code = code ∧ meth.sig.returnType = ret ∧ c.maxLocals = 4 ∧ s.vm.findClass R_law = some m.cls ∧ (∀ w ∈ lw_tbl, w.before #[Value.ref b] s = true) ∧ va_X b L xs s s.heap ∧ b < s.heap.size ∧ meth.locks = false ∧ (Jvm.Cond.and given_1 narrow_1).before #[Value.ref b] s = true
/-! The law's entry: what the Statement gives, in the abstract machine's words -/
def am_s1 : Nat → Int32 := fun j => match j with
  | 1 => 2
  | 3 => 2
  | _ => 0
def am_s2 : Nat → Int32 := fun j => match j with
  | 0 => 1
  | 1 => 3
  | 2 => 2
  | 3 => 3
  | _ => 1
def am_xs (L : Nat) (xs : Nat → Int32) : am_X := fun k => match k with
  | 0 => (L, xs)
  | 1 => (5, am_s1)
  | _ => (5, am_s2)
/-- what is left to show of the abstract machine: the law's run ends, with 1, within the room -/
def am_law : Prop := ∀ (L : Nat) (xs : Nat → Int32), L ≤ 2048 → ar Pg (am_xs L xs) 10 n_L_law 0 [some (.ref am_x0), none, none, none] [] [] (fun r h' => r = some (.int 1) ∧ h'.length ≤ 600000 ∧ am_sz h' ≤ 7302250)
theorem am_arr {s : State} {args : Array Value} {ty : FieldType} (h : (Cond.arrayClass ty).before args s = true) : ∃ c : ClassId, ArrOfT s c ty ∧ s.vm.findClass ("[" ++ ty.toString) = some c := by
  obtain ⟨c, k, comp, h1, h2, h3⟩ := Cond.arrayClass_spec h
  exact ⟨c, fun _ _ => ⟨(fun q hq => by cases hq), k, h2, comp, h3⟩, h1⟩
theorem am_KA {s : State} {args : Array Value} (hts : ∀ w ∈ lw_tbl, w.before args s = true) : ∃ cA : Nat → ClassId, ∀ (k : Nat) (q : ClassId × FieldType), (am_tys cA "SampledBanks$Records")[k]? = some q → ArrOfT s q.1 q.2 ∧ va_RA s q.1 q.2 := by
  obtain ⟨c0, a0, f0⟩ := am_arr (hts (.arrayClass .int) (am_tb1 44 rfl))
  obtain ⟨c1, a1, f1⟩ := am_arr (hts (.arrayClass .long) (am_tb1 68 rfl))
  obtain ⟨c2, a2, f2⟩ := am_arr (hts (.arrayClass .boolean) (am_tb1 45 rfl))
  obtain ⟨comp3, c3, k3, g1, -, g3, g4, g5⟩ := arrayOverA_spec (hts (.arrayOver (.array .long)) (am_tb1 76 rfl))
  obtain ⟨comp4, c4, k4, e1, -, e3, e4, e5⟩ := Cond.arrayOver_spec (hts (.arrayOver (.object "SampledBanks$Records")) (am_tb1 20 rfl))
  refine ⟨fun k => match k with | 0 => c0 | 1 => c1 | 2 => c2 | 3 => c3 | _ => c4, fun k q h => ?_⟩
  match k, h with
  | 0, h => cases h; exact ⟨a0, f0⟩
  | 1, h => cases h; exact ⟨a1, f1⟩
  | 2, h => cases h; exact ⟨a2, f2⟩
  | 3, h => cases h; exact ⟨fun _ _ => ⟨(fun q hq => by cases hq), k3, g3, comp3, g4⟩, g5⟩
  | 4, h => cases h; exact ⟨fun _ _ => ⟨(fun q hq => by cases hq), k4, e3, comp4, e4⟩, k4, comp4, e3, e4, e1, e5⟩
  | _ + 5, h => cases h
theorem am_KC {s : State} {args : Array Value} (hts : ∀ w ∈ lw_tbl, w.before args s = true) : ∃ D : va_G, ∀ (c : Nat) (q : vw_C), am_cls[c]? = some q → u_Kn s q.1 q.2.1 q.2.2 (D.1 c) (D.2 c) := by
  have hin : ∀ {C : String} {T : u_T} {N : Nat}, (∀ w ∈ u_ws C T N, w ∈ am_WS) → ∀ w ∈ u_ws C T N, w ∈ lw_tbl := fun h w hw => (List.mem_filter.mp (h w hw)).1
  obtain ⟨c0, i0, h0⟩ := u_known hts (hin glay_B) (hts (.instantiable "SampledBanks" 5) (am_tb1 12 rfl))
  obtain ⟨c1, i1, h1⟩ := u_known hts (hin glay_R) (hts (.instantiable "SampledBanks$Records" 4) (am_tb1 21 rfl))
  obtain ⟨c2, i2, h2⟩ := u_known hts (hin glay_Y) (hts (.instantiable "SampledBanks$Polynomial" 2) (am_tb1 53 rfl))
  obtain ⟨c3, i3, h3⟩ := u_known hts (hin glay_Q) (hts (.instantiable "SampledBanks$Equations" 3) (am_tb1 70 rfl))
  obtain ⟨c4, i4, h4⟩ := u_known hts (hin glay_A) (hts (.instantiable "SampledBanks$Fraction" 7) (am_tb1 47 rfl))
  obtain ⟨c5, i5, h5⟩ := u_known hts (hin glay_M) (hts (.instantiable "SampledBanksModel" 27) (am_tb2 154 rfl))
  refine ⟨(fun k => match k with | 0 => c0 | 1 => c1 | 2 => c2 | 3 => c3 | 4 => c4 | _ => c5, fun k => match k with | 0 => i0 | 1 => i1 | 2 => i2 | 3 => i3 | 4 => i4 | _ => i5), fun c q h => ?_⟩
  match c, h with
  | 0, h => cases h; exact h0
  | 1, h => cases h; exact h1
  | 2, h => cases h; exact h2
  | 3, h => cases h; exact h3
  | 4, h => cases h; exact h4
  | 5, h => cases h; exact h5
  | _ + 6, h => cases h
theorem am_xoT {s : State} {A : Nat → Prop} {t N : Nat} {f : Nat → Int32} (h : va_T .int t N (fun j => .int (f j)) A s s.heap) : am_xo s s.heap t N f ∧ ¬ A t := by
  obtain ⟨cell, h1, h2, h3, h4, h5, h6, h7⟩ := h
  exact ⟨⟨cell, h1, h2, h3, h4, h5, h6⟩, h7⟩
theorem am_xoX {s : State} {b L : Nat} {xs : Nat → Int32} (h : va_X b L xs s s.heap) : am_xo s s.heap b L xs := by
  obtain ⟨scr, h1, h2, h3, h4, h5⟩ := h
  exact ⟨scr, h1, h2, h3, by omega, (by rw [h4]), h5⟩
set_option maxHeartbeats 1000000 in
theorem am_start (hlaw : am_law) {p : Program} {e : Env} {s : State} {m : MethodId} {below : List Frame} {meth : Method} {c : Code} (l : Launch) {b L : Nat} {xs : Nat → Int32} (hL : L ≤ 2048) (C0 : lw_At p s m meth c b L xs) : W p l e room_1 s m #[Value.ref b] below meth c s.heap [] 0 0 (lw_Z below #[Value.ref b] s) (entryFrame m ([Value.ref b] : List Value).toArray 4) := by
  obtain ⟨hx, hb, hr, hml, hown, hts, hX, hbl, hlocks, hgv⟩ := C0
  have hs := flat_of_before _ hgv
  obtain ⟨cA, hKA⟩ := am_KA hts
  obtain ⟨D, hKC⟩ := am_KC hts
  have hAl : ∀ a : Nat, a < s.heap.size → ¬ (fun q => s.heap.size ≤ q) a := fun a h z => Nat.not_le.mpr h z
  have hini := hts (.initialized "SampledBanks") (am_tb1 1 rfl)
  obtain ⟨t1, hv1, hT1⟩ := va_Tof (A := fun q => s.heap.size ≤ q) (tm := .static "SampledBanks" "SPREAD_FIRST" "[I") (ty := .int) (N := 5) (f := fun j => .int (am_s1 j)) (by decide) (hs _ (by decide +kernel)) (va_eqt (z := 5) (hs _ (by decide +kernel))) (fun j hj => by
    have h5 : j = 0 ∨ j = 1 ∨ j = 2 ∨ j = 3 ∨ j = 4 := by omega
    rcases h5 with rfl | rfl | rfl | rfl | rfl
    · exact va_eqt (z := 0) (hs _ (by decide +kernel))
    · exact va_eqt (z := 2) (hs _ (by decide +kernel))
    · exact va_eqt (z := 0) (hs _ (by decide +kernel))
    · exact va_eqt (z := 2) (hs _ (by decide +kernel))
    · exact va_eqt (z := 0) (hs _ (by decide +kernel))) hAl
  obtain ⟨t2, hv2, hT2⟩ := va_Tof (A := fun q => s.heap.size ≤ q) (tm := .static "SampledBanks" "SPREAD_SECOND" "[I") (ty := .int) (N := 5) (f := fun j => .int (am_s2 j)) (by decide) (hs _ (by decide +kernel)) (va_eqt (z := 5) (hs _ (by decide +kernel))) (fun j hj => by
    have h5 : j = 0 ∨ j = 1 ∨ j = 2 ∨ j = 3 ∨ j = 4 := by omega
    rcases h5 with rfl | rfl | rfl | rfl | rfl
    · exact va_eqt (z := 1) (hs _ (by decide +kernel))
    · exact va_eqt (z := 3) (hs _ (by decide +kernel))
    · exact va_eqt (z := 2) (hs _ (by decide +kernel))
    · exact va_eqt (z := 3) (hs _ (by decide +kernel))
    · exact va_eqt (z := 1) (hs _ (by decide +kernel))) hAl
  have hZ1 : va_Z "SampledBanks" "SPREAD_FIRST" "[I" (.ref t1) (fun q => s.heap.size ≤ q) s s.heap := va_Zof (hts _ (am_tb2 123 rfl)) hini hv1 hAl
  have hZ2 : va_Z "SampledBanks" "SPREAD_SECOND" "[I" (.ref t2) (fun q => s.heap.size ≤ q) s s.heap := va_Zof (hts _ (am_tb2 125 rfl)) hini hv2 hAl
  obtain ⟨n, r, h', hrun, hr1, hlen, hsz⟩ := hlaw L xs hL
  have hE : am_EX "SampledBanks$Records" (am_xs L xs) am_NW am_STt (fun k => (fun k => if k = am_x0 then b else if k = am_x0 + 1 then t1 else t2) (am_x0 + k)) (fun q => s.heap.size ≤ q) s s.heap := by
    refine ⟨fun k hk => ?_, fun k h1 hk => ?_, fun w hw => ?_, hts (.arrayOver (.object "SampledBanks$Records")) (am_tb1 20 rfl), hts (.arrayOver (.array .long)) (am_tb1 76 rfl)⟩
    · have h3 : k = 0 ∨ k = 1 ∨ k = 2 := by omega
      rcases h3 with rfl | rfl | rfl
      · exact ⟨am_xoX hX, Nat.not_le.mpr hbl⟩
      · exact am_xoT hT1
      · exact am_xoT hT2
    · have h3 : k = 1 ∨ k = 2 := by omega
      rcases h3 with rfl | rfl
      · exact hZ1
      · exact hZ2
    · obtain ⟨h1, h2⟩ := List.mem_filter.mp hw
      refine va_Nw.of ?_ (hts w h1)
      cases w <;> first | rfl | (simp [am_isn] at h2; done)
  have hl := am_entry (fun k => if k = am_x0 then b else if k = am_x0 + 1 then t1 else t2) [Value.ref am_x0] (n := 4) (by decide)
  rw [lg_entry_eq]
  refine am_sound (X := am_xs L xs) (D := D) (cA := cA) (l := l) am_gG n 10 n_L_law m_L_law 0 _ [] [] h' r M_L_law hrun p e room_1 s m #[Value.ref b] below meth c s.heap [] 0 0 600000 7302250 0 (fun q => s.heap.size ≤ q) (fun k => if k = am_x0 then b else if k = am_x0 + 1 then t1 else t2) (fun k => if k = am_x0 then b else if k = am_x0 + 1 then t1 else t2) _ (lw_Z below #[Value.ref b] s) ⟨hx, hb, hml, hr, fun w hw => hts w (List.mem_filter.mp hw).1, hown, hlocks, fun z => absurd z (by decide +kernel), ⟨hKC, hKA⟩, fun q h => h, hE⟩ ⟨(fun k q h => by cases h), ⟨(fun i j p q h => by cases h), (fun k q h => by cases h)⟩, va_S.rf⟩ hl rfl (Nat.le_refl _) (am_ag.rf _ _) (fun _ => rfl) (by show 0 + h'.length ≤ 600000 + 0; omega) (by show 0 + am_sz h' ≤ 7302250 + 0; omega) (Nat.le_refl _) (Nat.le_refl _) (Nat.le_refl _) (by decide) ?_
  · intro ad' H' locs' pc' lsC' i hag hne hJ hd hi
    subst hr1
    obtain ⟨hP', hD', hS'⟩ := hJ
    rcases hi with ⟨rfl, v, hv, ht⟩ | ⟨rfl, v, hv, ht⟩ | ⟨rfl, a, nm, hv, ht⟩ | ⟨rfl, hv, ht⟩
    · exact va_forget (fun q hq => hS'.2.2 q hq) (lw_ret hx hb hr hlocks hd)
    · cases hv
    · cases hv
    · cases hv
end
section
/-! The law's start: both objects are made -/
def am_to (P : am_P) (X : am_X) (F : Nat) : Nat → Nat → Nat → Nat → am_L → List Value → am_H → Option am_S
  | 0, _, _, pc, ls, st, h => some (pc, ls, st, h)
  | n + 1, d, j, pc, ls, st, h => match P.1[j]? with
    | none => none
    | some M => match M.2.2.2.2.2[pc]? with
      | some (some (i, _)) => match am_exP P X d M i pc ls st h with
        | some (pc', ls', st') => am_to P X F n d j pc' ls' st' h
        | none => match am_exH P d M i pc ls st h with
          | some (pc', ls', st', h1) => if h.length ≤ h1.length ∧ am_sz h ≤ am_sz h1 then am_to P X F n d j pc' ls' st' h1 else none
          | none => match am_exC P M i st h with
            | some (.inl _) => none
            | some (.inr (j2, as, st')) => match d with
              | 0 => none
              | d1 + 1 => match P.1[j2]? with
                | none => none
                | some M2 => if (am_en as).length ≤ M2.2.2.1 then match am_run P X F d1 j2 0 (am_pad M2.2.2.1 (am_en as)) [] h with
                  | none => none
                  | some (r, h1) => if (am_co h.length ls && am_cs h.length st' && decide (h.length < 1000)) = true then am_to P X F n (d1 + 1) j (pc + 3) ls (r.toList ++ st') h1 else none
                  else none
            | none => none
      | _ => none
theorem ar_to {P : am_P} {X : am_X} {F : Nat} {Q : Option Value → am_H → Prop} : ∀ (n d j pc pc' : Nat) (ls ls' : am_L) (st st' : List Value) (h h' : am_H), am_to P X F n d j pc ls st h = some (pc', ls', st', h') → ar P X d j pc' ls' st' h' Q → ar P X d j pc ls st h Q := by
  intro n
  induction n with
  | zero =>
    intro d j pc pc' ls ls' st st' h h' hr k
    cases hr
    exact k
  | succ n ih =>
    intro d j pc pc' ls ls' st st' h h' hr k
    rw [am_to] at hr
    split at hr
    next => cases hr
    next M hM =>
      split at hr
      next i len hi =>
        split at hr
        next pc1 ls1 st1 hp => exact ar_P hM hi hp (ih _ _ _ _ _ _ _ _ _ _ hr k)
        next hp =>
          split at hr
          next pc1 ls1 st1 h1 hh =>
            split at hr
            next hm => exact ar_H hM hi hp hh hm (ih _ _ _ _ _ _ _ _ _ _ hr k)
            next => cases hr
          next hh =>
            split at hr
            next r0 hc => cases hr
            next j2 as st1 hc =>
              split at hr
              next => cases hr
              next d1 =>
                split at hr
                next => cases hr
                next M2 hM2 =>
                  split at hr
                  next hle =>
                    split at hr
                    next => cases hr
                    next r1 h1 hrun =>
                      split at hr
                      next hcl => exact ar_CN (Q1 := fun r h => r = r1 ∧ h = h1) hM hi hp hh hc hM2 hle hcl ⟨_, _, _, hrun, rfl, rfl⟩ (fun r h2 e => by rw [e.1, e.2]; exact ih _ _ _ _ _ _ _ _ _ _ hr k)
                      next => cases hr
                  next => cases hr
            next => cases hr
      next => cases hr
def am_h0 : am_H := [.inr (0, [.ref 1, .ref 2, .ref 6, .ref 10, .long 0]),
  .inl (4, 4, .inr (.inr (.inr (.inr (va_up (va_up (va_up (va_up (fun _ => none) 0 (some 40)) 1 (some 44)) 2 (some 48)) 3 (some 52)))))),
  .inr (1, [.ref 3, .ref 4, .ref 5, .int 0]),
  .inl (0, 64, .inl (fun _ => 0)),
  .inl (0, 64, .inl (fun _ => 0)),
  .inl (2, 64, .inl (fun _ => 0)),
  .inr (1, [.ref 7, .ref 8, .ref 9, .int 0]),
  .inl (0, 64, .inl (fun _ => 0)),
  .inl (0, 64, .inl (fun _ => 0)),
  .inl (2, 64, .inl (fun _ => 0)),
  .inr (4, [.ref 11, .ref 13, .ref 15, .ref 17, .ref 19, .ref 38, .ref 39]),
  .inr (2, [.ref 12, .int 0]),
  .inl (1, 17, .inr (.inl (vp_updL (fun _ => 0) 0 1))),
  .inr (2, [.ref 14, .int 0]),
  .inl (1, 17, .inr (.inl (vp_updL (fun _ => 0) 0 1))),
  .inr (2, [.ref 16, .int 0]),
  .inl (1, 17, .inr (.inl (vp_updL (fun _ => 0) 0 1))),
  .inr (2, [.ref 18, .int 0]),
  .inl (1, 17, .inr (.inl (vp_updL (fun _ => 0) 0 1))),
  .inr (3, [.ref 20, .ref 37, .int 0]),
  .inl (3, 16, .inr (.inr (.inr (.inr (fun i => if i < 16 then some (21 + i) else none))))),
  .inl (1, 17, .inr (.inl (fun _ => 0))),
  .inl (1, 17, .inr (.inl (fun _ => 0))),
  .inl (1, 17, .inr (.inl (fun _ => 0))),
  .inl (1, 17, .inr (.inl (fun _ => 0))),
  .inl (1, 17, .inr (.inl (fun _ => 0))),
  .inl (1, 17, .inr (.inl (fun _ => 0))),
  .inl (1, 17, .inr (.inl (fun _ => 0))),
  .inl (1, 17, .inr (.inl (fun _ => 0))),
  .inl (1, 17, .inr (.inl (fun _ => 0))),
  .inl (1, 17, .inr (.inl (fun _ => 0))),
  .inl (1, 17, .inr (.inl (fun _ => 0))),
  .inl (1, 17, .inr (.inl (fun _ => 0))),
  .inl (1, 17, .inr (.inl (fun _ => 0))),
  .inl (1, 17, .inr (.inl (fun _ => 0))),
  .inl (1, 17, .inr (.inl (fun _ => 0))),
  .inl (1, 17, .inr (.inl (fun _ => 0))),
  .inl (0, 16, .inl (fun _ => 0)),
  .inl (1, 18, .inr (.inl (fun _ => 0))),
  .inl (1, 18, .inr (.inl (fun _ => 0))),
  .inr (1, [.ref 41, .ref 42, .ref 43, .int 0]),
  .inl (0, 64, .inl (fun _ => 0)),
  .inl (0, 64, .inl (fun _ => 0)),
  .inl (2, 64, .inl (fun _ => 0)),
  .inr (1, [.ref 45, .ref 46, .ref 47, .int 0]),
  .inl (0, 64, .inl (fun _ => 0)),
  .inl (0, 64, .inl (fun _ => 0)),
  .inl (2, 64, .inl (fun _ => 0)),
  .inr (1, [.ref 49, .ref 50, .ref 51, .int 0]),
  .inl (0, 64, .inl (fun _ => 0)),
  .inl (0, 64, .inl (fun _ => 0)),
  .inl (2, 64, .inl (fun _ => 0)),
  .inr (1, [.ref 53, .ref 54, .ref 55, .int 0]),
  .inl (0, 64, .inl (fun _ => 0)),
  .inl (0, 64, .inl (fun _ => 0)),
  .inl (2, 64, .inl (fun _ => 0)),
  .inr (5, [.ref 57, .ref 58, .ref 59, .ref 60, .ref 61, .long 0, .ref 62, .ref 63, .int 0, .int 0, .int 0, .ref 64, .ref 65, .ref 66, .ref 67, .int 0, .int 0, .ref 68, .ref 69, .ref 70, .int 0, .int 0, .ref 71, .ref 72, .ref 73, .ref 74, .ref 75]),
  .inl (0, 4, .inl (fun _ => 0)),
  .inl (0, 256, .inl (fun _ => 0)),
  .inl (0, 256, .inl (fun _ => 0)),
  .inl (0, 256, .inl (fun _ => 0)),
  .inl (2, 256, .inl (fun _ => 0)),
  .inl (1, 17, .inr (.inl (vp_updL (fun _ => 0) 0 1))),
  .inl (1, 17, .inr (.inl (vp_updL (fun _ => 0) 0 1))),
  .inl (1, 612, .inr (.inl (fun _ => 0))),
  .inl (1, 18, .inr (.inl (fun _ => 0))),
  .inl (1, 17, .inr (.inl (fun _ => 0))),
  .inl (1, 17, .inr (.inl (fun _ => 0))),
  .inl (1, 17, .inr (.inl (fun _ => 0))),
  .inl (1, 17, .inr (.inl (fun _ => 0))),
  .inl (1, 17, .inr (.inl (fun _ => 0))),
  .inl (0, 128, .inl (fun _ => 0)),
  .inl (0, 128, .inl (fun _ => 0)),
  .inl (0, 128, .inl (fun _ => 0)),
  .inl (0, 128, .inl (fun _ => 0)),
  .inl (2, 128, .inl (fun _ => 0))]
set_option maxRecDepth 1000000 in
set_option maxHeartbeats 0 in
theorem am_init (X : am_X) : am_to Pg X 400 10 10 n_L_law 0 [some (.ref am_x0), none, none, none] [] [] = some (18, [some (.ref am_x0), some (.ref 0), some (.ref 56), some (.int 0)], [], am_h0) := by
  rfl
end
section
/-! Branches on natural numbers; booleans -/
theorem c2_eq_t {a b : Nat} (ha : a < 2 ^ 31) (hb : b < 2 ^ 31) (h : am_c2 .eq (nI a) (nI b) = true) : a = b := (nI_eq ha hb).mp (of_decide_eq_true h)
theorem c2_eq_f {a b : Nat} (ha : a < 2 ^ 31) (hb : b < 2 ^ 31) (h : am_c2 .eq (nI a) (nI b) = false) : ¬ a = b := fun z => of_decide_eq_false h ((nI_eq ha hb).mpr z)
theorem c2_ne_t {a b : Nat} (ha : a < 2 ^ 31) (hb : b < 2 ^ 31) (h : am_c2 .ne (nI a) (nI b) = true) : ¬ a = b := fun z => (of_decide_eq_true h : ¬ nI a = nI b) ((nI_eq ha hb).mpr z)
theorem c2_ne_f {a b : Nat} (ha : a < 2 ^ 31) (hb : b < 2 ^ 31) (h : am_c2 .ne (nI a) (nI b) = false) : a = b := (nI_eq ha hb).mp (Decidable.not_not.mp (of_decide_eq_false h : ¬ ¬ nI a = nI b))
theorem c2_lt_t {a b : Nat} (ha : a < 2 ^ 31) (hb : b < 2 ^ 31) (h : am_c2 .lt (nI a) (nI b) = true) : a < b := (nI_ltI ha hb).mp (of_decide_eq_true h)
theorem c2_lt_f {a b : Nat} (ha : a < 2 ^ 31) (hb : b < 2 ^ 31) (h : am_c2 .lt (nI a) (nI b) = false) : b ≤ a := by
  have z : ¬ (a < b) := fun z => of_decide_eq_false h ((nI_ltI ha hb).mpr z)
  omega
theorem c2_ge_t {a b : Nat} (ha : a < 2 ^ 31) (hb : b < 2 ^ 31) (h : am_c2 .ge (nI a) (nI b) = true) : b ≤ a := (nI_leI hb ha).mp (of_decide_eq_true h)
theorem c2_ge_f {a b : Nat} (ha : a < 2 ^ 31) (hb : b < 2 ^ 31) (h : am_c2 .ge (nI a) (nI b) = false) : a < b := by
  have z : ¬ (b ≤ a) := fun z => of_decide_eq_false h ((nI_leI hb ha).mpr z)
  omega
theorem c2_gt_t {a b : Nat} (ha : a < 2 ^ 31) (hb : b < 2 ^ 31) (h : am_c2 .gt (nI a) (nI b) = true) : b < a := (nI_ltI hb ha).mp (of_decide_eq_true h)
theorem c2_gt_f {a b : Nat} (ha : a < 2 ^ 31) (hb : b < 2 ^ 31) (h : am_c2 .gt (nI a) (nI b) = false) : a ≤ b := by
  have z : ¬ (b < a) := fun z => of_decide_eq_false h ((nI_ltI hb ha).mpr z)
  omega
theorem c2_le_t {a b : Nat} (ha : a < 2 ^ 31) (hb : b < 2 ^ 31) (h : am_c2 .le (nI a) (nI b) = true) : a ≤ b := (nI_leI ha hb).mp (of_decide_eq_true h)
theorem c2_le_f {a b : Nat} (ha : a < 2 ^ 31) (hb : b < 2 ^ 31) (h : am_c2 .le (nI a) (nI b) = false) : b < a := by
  have z : ¬ (a ≤ b) := fun z => of_decide_eq_false h ((nI_leI ha hb).mpr z)
  omega
def bi (b : Bool) : Int32 := if b = true then 1 else 0
theorem bi_01 (b : Bool) : bi b = 0 ∨ bi b = 1 := by cases b <;> decide
theorem bi_eq_t {b : Bool} (h : am_c2 .eq (bi b) 0 = true) : b = false := by cases b <;> first | rfl | exact absurd h (by decide)
theorem bi_eq_f {b : Bool} (h : am_c2 .eq (bi b) 0 = false) : b = true := by cases b <;> first | rfl | exact absurd h (by decide)
theorem bi_ne_t {b : Bool} (h : am_c2 .ne (bi b) 0 = true) : b = true := by cases b <;> first | rfl | exact absurd h (by decide)
theorem bi_ne_f {b : Bool} (h : am_c2 .ne (bi b) 0 = false) : b = false := by cases b <;> first | rfl | exact absurd h (by decide)

theorem c_F_times (X : am_X) (d : Nat) (h : am_H) {x y : Nat} (hx : x < 2147483648) (hy : y < 2147483648) : ar Pg X d n_F_times 0 [some (.long (lN x)), none, some (.long (lN y)), none] [] h (fun r h' => r = some (.long (lN (x * y % 2147483647))) ∧ h' = h) := by
  refine ar_go M_F_times 3 _ 3 _ [some (.long (lN x)), none, some (.long (lN y)), none] _ [.long (lN x * lN y)] rfl ?_
  refine ar_top (w := .long (lN (x * y))) (congrArg Value.long (lN_mul x y)) ?_
  refine ar_go M_F_times 1 _ 6 _ [some (.long (lN x)), none, some (.long (lN y)), none] _ [.long (lN 2147483647), .long (lN (x * y))] rfl ?_
  refine ar_lrem M_F_times rfl (by decide) ?_
  refine ar_top (w := .long (lN ((x * y) % 2147483647))) (congrArg Value.long (pk_lRem (by have := Nat.mul_lt_mul'' hx hy; omega) (by decide) (by decide))) ?_
  exact ar_R M_F_times rfl rfl rfl rfl (⟨rfl, rfl⟩)
theorem c_F_plus (X : am_X) (d : Nat) (h : am_H) {x y : Nat} (hx : x < 2147483648) (hy : y < 2147483648) : ar Pg X d n_F_plus 0 [some (.long (lN x)), none, some (.long (lN y)), none] [] h (fun r h' => r = some (.long (lN ((x + y) % 2147483647))) ∧ h' = h) := by
  refine ar_go M_F_plus 3 _ 3 _ [some (.long (lN x)), none, some (.long (lN y)), none] _ [.long (lN x + lN y)] rfl ?_
  refine ar_top (w := .long (lN (x + y))) (congrArg Value.long (lN_add x y)) ?_
  refine ar_go M_F_plus 1 _ 6 _ [some (.long (lN x)), none, some (.long (lN y)), none] _ [.long (lN 2147483647), .long (lN (x + y))] rfl ?_
  refine ar_lrem M_F_plus rfl (by decide) ?_
  refine ar_top (w := .long (lN ((x + y) % 2147483647))) (congrArg Value.long (pk_lRem (by omega) (by decide) (by decide))) ?_
  exact ar_R M_F_plus rfl rfl rfl rfl (⟨rfl, rfl⟩)
theorem c_F_minus (X : am_X) (d : Nat) (h : am_H) {x y : Nat} (hx : x < 2147483648) (hy : y < 2147483648) (hy2 : y ≤ x + 2147483647) : ar Pg X d n_F_minus 0 [some (.long (lN x)), none, some (.long (lN y)), none] [] h (fun r h' => r = some (.long (lN ((x + 2147483647 - y) % 2147483647))) ∧ h' = h) := by
  refine ar_go M_F_minus 3 _ 5 _ [some (.long (lN x)), none, some (.long (lN y)), none] _ [.long (lN x + lN 2147483647)] rfl ?_
  refine ar_top (w := .long (lN (x + 2147483647))) (congrArg Value.long (lN_add x 2147483647)) ?_
  refine ar_go M_F_minus 2 _ 7 _ [some (.long (lN x)), none, some (.long (lN y)), none] _ [.long (lN (x + 2147483647) - lN y)] rfl ?_
  refine ar_top (w := .long (lN ((x + 2147483647) - y))) (congrArg Value.long (lN_sub (by omega))) ?_
  refine ar_go M_F_minus 1 _ 10 _ [some (.long (lN x)), none, some (.long (lN y)), none] _ [.long (lN 2147483647), .long (lN ((x + 2147483647) - y))] rfl ?_
  refine ar_lrem M_F_minus rfl (by decide) ?_
  refine ar_top (w := .long (lN (((x + 2147483647) - y) % 2147483647))) (congrArg Value.long (pk_lRem (by omega) (by decide) (by decide))) ?_
  exact ar_R M_F_minus rfl rfl rfl rfl (⟨rfl, rfl⟩)
-- the power by squares, as both sides reckon it
def mf_pw : Nat → Nat → Nat → Nat → Nat
  | 0, a, _, _ => a
  | n + 1, a, q, e => mf_pw n (if e % 2 = 1 then a * q % 2147483647 else a) (q * q % 2147483647) (e / 2)
theorem mf_pw_lt : ∀ (n a q e : Nat), a < 2147483647 → mf_pw n a q e < 2147483647
  | 0, a, q, e, h => h
  | n + 1, a, q, e, h => by
    rw [mf_pw]
    apply mf_pw_lt
    split
    · exact Nat.mod_lt _ (by decide)
    · exact h
def mf_iv (x : Nat) : Nat := mf_pw 31 1 x 2147483645
theorem mf_iv_lt (x : Nat) : mf_iv x < 2147483647 := mf_pw_lt _ _ _ _ (by decide)
def mf_e (k : Nat) : Nat := 2147483645 / 2 ^ k
theorem mf_e_and : ∀ k, k < 31 → lN (mf_e k) &&& lN 1 = lN (mf_e k % 2) := by decide +kernel
theorem mf_e_shr : ∀ k, k < 31 → lN (mf_e k) >>> ((nI 1).toInt64 &&& 63) = lN (mf_e (k + 1)) := by decide +kernel
theorem mf_e_pos : ∀ k, k < 31 → lg_cmp (lN (mf_e k)) (lN 0) = 1 := by decide +kernel
theorem mf_e_half (k : Nat) : mf_e k / 2 = mf_e (k + 1) := by
  unfold mf_e
  rw [Nat.div_div_eq_div_mul, Nat.pow_succ]
theorem mf_e_cmp : ∀ k, k < 31 → lg_cmp (lN (mf_e k % 2)) (lN 1) = if mf_e k % 2 = 1 then 0 else -1 := by decide +kernel
theorem c_F_inv_loop (X : am_X) (d : Nat) (h : am_H) (x : Nat) : ∀ (n k a q : Nat), n + k = 31 → a < 2147483648 → q < 2147483648 → ar Pg X d n_F_inverse 10 [some (.long (lN x)), none, some (.long (lN a)), none, some (.long (lN q)), none, some (.long (lN (mf_e k))), none] [] h (fun r h' => r = some (.long (lN (mf_pw n a q (mf_e k)))) ∧ h' = h) := by
  intro n
  induction n with
  | zero =>
    intro k a q hk ha hq
    have hk : k = 31 := by omega
    subst hk
    refine ar_go M_F_inverse 3 _ 14 _ [some (.long (lN x)), none, some (.long (lN a)), none, some (.long (lN q)), none, some (.long (lN (mf_e 31))), none] _ [.int (lg_cmp (lN (mf_e 31)) (lN 0))] rfl ?_
    refine ar_if M_F_inverse rfl rfl (fun _ => ?_) (fun z => absurd z (by decide))
    refine ar_go M_F_inverse 1 _ 56 _ [some (.long (lN x)), none, some (.long (lN a)), none, some (.long (lN q)), none, some (.long (lN (mf_e 31))), none] _ [.long (lN a)] rfl ?_
    exact ar_R M_F_inverse rfl rfl rfl rfl ⟨rfl, rfl⟩
  | succ n ih =>
    intro k a q hk ha hq
    refine ar_go M_F_inverse 3 _ 14 _ [some (.long (lN x)), none, some (.long (lN a)), none, some (.long (lN q)), none, some (.long (lN (mf_e k))), none] _ [.int (lg_cmp (lN (mf_e k)) (lN 0))] rfl ?_
    refine ar_top (w := .int 1) (congrArg Value.int (mf_e_pos k (by omega))) ?_
    refine ar_if M_F_inverse rfl rfl (fun z => absurd z (by decide)) (fun _ => ?_)
    refine ar_go M_F_inverse 3 _ 21 _ [some (.long (lN x)), none, some (.long (lN a)), none, some (.long (lN q)), none, some (.long (lN (mf_e k))), none] _ [.long (lN (mf_e k) &&& lN 1)] rfl ?_
    refine ar_top (w := .long (lN (mf_e k % 2))) (congrArg Value.long (mf_e_and k (by omega))) ?_
    refine ar_go M_F_inverse 2 _ 23 _ [some (.long (lN x)), none, some (.long (lN a)), none, some (.long (lN q)), none, some (.long (lN (mf_e k))), none] _ [.int (lg_cmp (lN (mf_e k % 2)) (lN 1))] rfl ?_
    refine ar_top (w := .int (if mf_e k % 2 = 1 then 0 else -1)) (congrArg Value.int (mf_e_cmp k (by omega))) ?_
    by_cases ho : mf_e k % 2 = 1
    · rw [if_pos ho]
      refine ar_if M_F_inverse rfl rfl (fun z => absurd z (by decide)) (fun _ => ?_)
      refine ar_go M_F_inverse 3 _ 30 _ [some (.long (lN x)), none, some (.long (lN a)), none, some (.long (lN q)), none, some (.long (lN (mf_e k))), none] _ [.long (lN a * lN q)] rfl ?_
      refine ar_top (w := .long (lN (a * q))) (congrArg Value.long (lN_mul a q)) ?_
      refine ar_go M_F_inverse 1 _ 33 _ [some (.long (lN x)), none, some (.long (lN a)), none, some (.long (lN q)), none, some (.long (lN (mf_e k))), none] _ [.long (lN 2147483647), .long (lN (a * q))] rfl ?_
      refine ar_lrem M_F_inverse rfl (by decide) ?_
      refine ar_top (w := .long (lN ((a * q) % 2147483647))) (congrArg Value.long (pk_lRem (by have := Nat.mul_lt_mul'' ha hq; omega) (by decide) (by decide))) ?_
      refine ar_go M_F_inverse 4 _ 40 _ [some (.long (lN x)), none, some (.long (lN ((a * q) % 2147483647))), none, some (.long (lN q)), none, some (.long (lN (mf_e k))), none] _ [.long (lN q * lN q)] rfl ?_
      refine ar_top (w := .long (lN (q * q))) (congrArg Value.long (lN_mul q q)) ?_
      refine ar_go M_F_inverse 1 _ 43 _ [some (.long (lN x)), none, some (.long (lN ((a * q) % 2147483647))), none, some (.long (lN q)), none, some (.long (lN (mf_e k))), none] _ [.long (lN 2147483647), .long (lN (q * q))] rfl ?_
      refine ar_lrem M_F_inverse rfl (by decide) ?_
      refine ar_top (w := .long (lN ((q * q) % 2147483647))) (congrArg Value.long (pk_lRem (by have := Nat.mul_lt_mul'' hq hq; omega) (by decide) (by decide))) ?_
      refine ar_go M_F_inverse 4 _ 50 _ [some (.long (lN x)), none, some (.long (lN ((a * q) % 2147483647))), none, some (.long (lN ((q * q) % 2147483647))), none, some (.long (lN (mf_e k))), none] _ [.long ((lN (mf_e k)) >>> ((nI 1).toInt64 &&& 63))] rfl ?_
      refine ar_top (w := .long (lN (mf_e (k + 1)))) (congrArg Value.long (mf_e_shr k (by omega))) ?_
      refine ar_go M_F_inverse 2 _ 10 _ [some (.long (lN x)), none, some (.long (lN ((a * q) % 2147483647))), none, some (.long (lN ((q * q) % 2147483647))), none, some (.long (lN (mf_e (k + 1)))), none] _ [] rfl ?_
      have ih' := ih (k + 1) (a * q % 2147483647) (q * q % 2147483647) (by omega) (Nat.lt_of_lt_of_le (Nat.mod_lt _ (by decide)) (by decide)) (Nat.lt_of_lt_of_le (Nat.mod_lt _ (by decide)) (by decide))
      rw [mf_pw, if_pos ho, mf_e_half]
      exact ih'
    · rw [if_neg ho]
      refine ar_if M_F_inverse rfl rfl (fun _ => ?_) (fun z => absurd z (by decide))
      refine ar_go M_F_inverse 3 _ 40 _ [some (.long (lN x)), none, some (.long (lN a)), none, some (.long (lN q)), none, some (.long (lN (mf_e k))), none] _ [.long (lN q * lN q)] rfl ?_
      refine ar_top (w := .long (lN (q * q))) (congrArg Value.long (lN_mul q q)) ?_
      refine ar_go M_F_inverse 1 _ 43 _ [some (.long (lN x)), none, some (.long (lN a)), none, some (.long (lN q)), none, some (.long (lN (mf_e k))), none] _ [.long (lN 2147483647), .long (lN (q * q))] rfl ?_
      refine ar_lrem M_F_inverse rfl (by decide) ?_
      refine ar_top (w := .long (lN ((q * q) % 2147483647))) (congrArg Value.long (pk_lRem (by have := Nat.mul_lt_mul'' hq hq; omega) (by decide) (by decide))) ?_
      refine ar_go M_F_inverse 4 _ 50 _ [some (.long (lN x)), none, some (.long (lN a)), none, some (.long (lN ((q * q) % 2147483647))), none, some (.long (lN (mf_e k))), none] _ [.long ((lN (mf_e k)) >>> ((nI 1).toInt64 &&& 63))] rfl ?_
      refine ar_top (w := .long (lN (mf_e (k + 1)))) (congrArg Value.long (mf_e_shr k (by omega))) ?_
      refine ar_go M_F_inverse 2 _ 10 _ [some (.long (lN x)), none, some (.long (lN a)), none, some (.long (lN ((q * q) % 2147483647))), none, some (.long (lN (mf_e (k + 1)))), none] _ [] rfl ?_
      have ih' := ih (k + 1) a (q * q % 2147483647) (by omega) ha (Nat.lt_of_lt_of_le (Nat.mod_lt _ (by decide)) (by decide))
      rw [mf_pw, if_neg ho, mf_e_half]
      exact ih'
theorem c_F_inverse (X : am_X) (d : Nat) (h : am_H) {x : Nat} (hx : x < 2147483648) : ar Pg X d n_F_inverse 0 [some (.long (lN x)), none, none, none, none, none, none, none] [] h (fun r h' => r = some (.long (lN (mf_iv x))) ∧ h' = h) := by
  refine ar_go M_F_inverse 6 _ 10 _ [some (.long (lN x)), none, some (.long (lN 1)), none, some (.long (lN x)), none, some (.long (lN 2147483645)), none] _ [] rfl ?_
  exact c_F_inv_loop X d h x 31 0 1 x rfl (by decide) hx
end
section
/-! Records: a bank is a list of (word, grams, dropped), in the order of the words -/
abbrev Bk : Type := List (Nat × Int32 × Bool)
def wd (l : Bk) (i : Nat) : Nat := (l.getD i (0, 0, false)).1
def gd (l : Bk) (i : Nat) : Int32 := (l.getD i (0, 0, false)).2.1
def dd (l : Bk) (i : Nat) : Bool := (l.getD i (0, 0, false)).2.2
/-- numbers rise; words are small -/
def bkS (l : Bk) : Prop := ∀ i j, i < j → j < l.length → wd l i / 1024 < wd l j / 1024
def bkW (l : Bk) : Prop := ∀ i, i < l.length → wd l i < 1073741824
def isPl (l : Bk) (n p : Nat) : Prop := p ≤ l.length ∧ (∀ i, i < p → wd l i / 1024 < n) ∧ ∀ i, p ≤ i → i < l.length → n ≤ wd l i / 1024
/-- the cells of a Records at r hold l -/
def isR (h : am_H) (r : Nat) (l : Bk) : Prop := l.length ≤ 64 ∧ h[r]? = some (.inr (1, [.ref (r + 1), .ref (r + 2), .ref (r + 3), .int (nI l.length)])) ∧ ∃ (f g m : Nat → Int32), h[r + 1]? = some (.inl (0, 64, .inl f)) ∧ h[r + 2]? = some (.inl (0, 64, .inl g)) ∧ h[r + 3]? = some (.inl (2, 64, .inl m)) ∧ ∀ i, i < l.length → f i = nI (wd l i) ∧ g i = gd l i ∧ m i = bi (dd l i)
theorem c_R_pl_loop (X : am_X) (d : Nat) (h : am_H) {r n : Nat} {l : Bk} (hR : isR h r l) (hrs : r < 1000) (hS : bkS l) (hW : bkW l) (hn : n < 2 ^ 31) : ∀ (k lo hi : Nat) (x4 : Option Value), hi - lo < k → lo ≤ hi → hi ≤ l.length → (∀ i, i < lo → wd l i / 1024 < n) → (∀ i, hi ≤ i → i < l.length → n ≤ wd l i / 1024) → ar Pg X d n_R_placeOf 7 [some (.ref r), some (.int (nI n)), some (.int (nI lo)), some (.int (nI hi)), x4] [] h (fun rr h' => ∃ p, isPl l n p ∧ rr = some (.int (nI p)) ∧ h' = h) := by
  obtain ⟨hlen, hr, f, g, m, hw, hg, hm, hfa⟩ := hR
  intro k
  induction k with
  | zero => intro lo hi x4 hk; omega
  | succ k ih =>
    intro lo hi x4 hk hlh hhl ha hb
    refine ar_go M_R_placeOf 2 _ 9 _ [some (.ref r), some (.int (nI n)), some (.int (nI lo)), some (.int (nI hi)), x4] _ [.int (nI hi), .int (nI lo)] rfl ?_
    refine ar_icmp M_R_placeOf rfl rfl (fun hc => ?_) (fun hc => ?_)
    · have hc := c2_ge_t (a := lo) (b := hi) (by omega) (by omega) hc
      refine ar_go M_R_placeOf 1 _ 49 _ [some (.ref r), some (.int (nI n)), some (.int (nI lo)), some (.int (nI hi)), x4] _ [.int (nI lo)] rfl ?_
      exact ar_R M_R_placeOf rfl rfl rfl rfl (⟨lo, ⟨by omega, ha, fun i h1 h2 => hb i (by omega) h2⟩, rfl, rfl⟩)
    · have hc := c2_ge_f (a := lo) (b := hi) (by omega) (by omega) hc
      refine ar_go M_R_placeOf 3 _ 15 _ [some (.ref r), some (.int (nI n)), some (.int (nI lo)), some (.int (nI hi)), x4] _ [.int (nI lo + nI hi)] rfl ?_
      refine ar_top (w := .int (nI (lo + hi))) (congrArg Value.int (nI_add lo hi)) ?_
      refine ar_go M_R_placeOf 1 _ 16 _ [some (.ref r), some (.int (nI n)), some (.int (nI lo)), some (.int (nI hi)), x4] _ [.int (nI 2), .int (nI (lo + hi))] rfl ?_
      refine ar_idiv M_R_placeOf rfl (by decide) ?_
      refine ar_top (w := .int (nI ((lo + hi) / 2))) (congrArg Value.int (pk_div (by omega) (by decide) (by decide))) ?_
      obtain ⟨md, hmd⟩ : ∃ md, md = (lo + hi) / 2 := ⟨_, rfl⟩
      rw [← hmd]
      have hwm := hW md (by omega)
      refine ar_go M_R_placeOf 2 _ 20 _ [some (.ref r), some (.int (nI n)), some (.int (nI lo)), some (.int (nI hi)), some (.int (nI md))] _ [.ref r] rfl ?_
      refine ar_get M_R_placeOf rfl rfl hr rfl ?_
      refine ar_go M_R_placeOf 1 _ 25 _ [some (.ref r), some (.int (nI n)), some (.int (nI lo)), some (.int (nI hi)), some (.int (nI md))] _ [.int (nI md), .ref (r + 1)] rfl ?_
      refine ar_iald M_R_placeOf rfl (by unfold am_x0; omega) hw (vp_in_nI (by omega) (by decide)) ?_
      rw [nI_clamp (n := md) (by omega)]
      refine ar_top (w := .int (nI (wd l md))) (congrArg Value.int ((hfa md (by omega)).1)) ?_
      refine ar_go M_R_placeOf 1 _ 29 _ [some (.ref r), some (.int (nI n)), some (.int (nI lo)), some (.int (nI hi)), some (.int (nI md))] _ [.int (nI 1024), .int (nI (wd l md))] rfl ?_
      refine ar_idiv M_R_placeOf rfl (by decide) ?_
      refine ar_top (w := .int (nI ((wd l md) / 1024))) (congrArg Value.int (pk_div (by omega) (by decide) (by decide))) ?_
      refine ar_go M_R_placeOf 1 _ 31 _ [some (.ref r), some (.int (nI n)), some (.int (nI lo)), some (.int (nI hi)), some (.int (nI md))] _ [.int (nI n), .int (nI ((wd l md) / 1024))] rfl ?_
      refine ar_icmp M_R_placeOf rfl rfl (fun hc2 => ?_) (fun hc2 => ?_)
      · have hc2 := c2_ge_t (a := ((wd l md) / 1024)) (b := n) (by omega) (by omega) hc2
        refine ar_go M_R_placeOf 3 _ 7 _ [some (.ref r), some (.int (nI n)), some (.int (nI lo)), some (.int (nI md)), some (.int (nI md))] _ [] rfl ?_
        exact ih lo md _ (by omega) (by omega) (by omega) ha (fun i h1 h2 => by
          by_cases e : i = md
          · subst e; exact hc2
          · have := hS md i (by omega) h2; omega)
      · have hc2 := c2_ge_f (a := ((wd l md) / 1024)) (b := n) (by omega) (by omega) hc2
        refine ar_go M_R_placeOf 3 _ 38 _ [some (.ref r), some (.int (nI n)), some (.int (nI lo)), some (.int (nI hi)), some (.int (nI md))] _ [.int (nI md + nI 1)] rfl ?_
        refine ar_top (w := .int (nI (md + 1))) (congrArg Value.int (nI_add md 1)) ?_
        refine ar_go M_R_placeOf 3 _ 7 _ [some (.ref r), some (.int (nI n)), some (.int (nI (md + 1))), some (.int (nI hi)), some (.int (nI md))] _ [] rfl ?_
        exact ih (md + 1) hi _ (by omega) (by omega) (by omega) (fun i h1 => by
          by_cases e : i = md
          · subst e; exact hc2
          · have := hS i md (by omega) (by omega); omega) hb
theorem c_R_placeOf (X : am_X) (d : Nat) (h : am_H) {r n : Nat} {l : Bk} (hR : isR h r l) (hrs : r < 1000) (hS : bkS l) (hW : bkW l) (hn : n < 2 ^ 31) : ar Pg X d n_R_placeOf 0 [some (.ref r), some (.int (nI n)), none, none, none] [] h (fun rr h' => ∃ p, isPl l n p ∧ rr = some (.int (nI p)) ∧ h' = h) := by
  have hR0 := hR
  obtain ⟨hlen, hr, f, g, m, hw, hg, hm, hfa⟩ := hR
  refine ar_go M_R_placeOf 3 _ 3 _ [some (.ref r), some (.int (nI n)), some (.int (nI 0)), none, none] _ [.ref r] rfl ?_
  refine ar_get M_R_placeOf rfl rfl hr rfl ?_
  refine ar_go M_R_placeOf 1 _ 7 _ [some (.ref r), some (.int (nI n)), some (.int (nI 0)), some (.int (nI l.length)), none] _ [] rfl ?_
  exact c_R_pl_loop X d h hR0 hrs hS hW hn (l.length + 1) 0 l.length none (by omega) (by omega) (by omega) (fun i hi => by omega) (fun i h1 h2 => by omega)
def hasAt (l : Bk) (p n : Nat) : Bool := decide (p < l.length) && decide (wd l p / 1024 = n)
theorem c_R_holdsAt (X : am_X) (d : Nat) (h : am_H) {r p n : Nat} {l : Bk} (hR : isR h r l) (hrs : r < 1000) (hW : bkW l) (hp : p < 2 ^ 31) (hn : n < 2 ^ 31) : ar Pg X d n_R_holdsAt 0 [some (.ref r), some (.int (nI p)), some (.int (nI n))] [] h (fun rr h' => rr = some (.int (bi (hasAt l p n))) ∧ h' = h) := by
  obtain ⟨hlen, hr, f, g, m, hw, hg, hm, hfa⟩ := hR
  refine ar_go M_R_holdsAt 2 _ 2 _ [some (.ref r), some (.int (nI p)), some (.int (nI n))] _ [.ref r, .int (nI p)] rfl ?_
  refine ar_get M_R_holdsAt rfl rfl hr rfl ?_
  refine ar_icmp M_R_holdsAt rfl rfl (fun hc => ?_) (fun hc => ?_)
  · have hc := c2_ge_t (a := p) (b := l.length) (by omega) (by omega) hc
    refine ar_go M_R_holdsAt 1 _ 27 _ [some (.ref r), some (.int (nI p)), some (.int (nI n))] _ [.int (nI 0)] rfl ?_
    exact ar_zret M_R_holdsAt rfl rfl (Or.inl rfl) (⟨by simp [hasAt, bi, show ¬ p < l.length by omega, nI], rfl⟩)
  · have hc := c2_ge_f (a := p) (b := l.length) (by omega) (by omega) hc
    have hwp := hW p (by omega)
    refine ar_go M_R_holdsAt 1 _ 9 _ [some (.ref r), some (.int (nI p)), some (.int (nI n))] _ [.ref r] rfl ?_
    refine ar_get M_R_holdsAt rfl rfl hr rfl ?_
    refine ar_go M_R_holdsAt 1 _ 13 _ [some (.ref r), some (.int (nI p)), some (.int (nI n))] _ [.int (nI p), .ref (r + 1)] rfl ?_
    refine ar_iald M_R_holdsAt rfl (by unfold am_x0; omega) hw (vp_in_nI (by omega) (by decide)) ?_
    rw [nI_clamp (n := p) (by omega)]
    refine ar_top (w := .int (nI (wd l p))) (congrArg Value.int ((hfa p (by omega)).1)) ?_
    refine ar_go M_R_holdsAt 1 _ 17 _ [some (.ref r), some (.int (nI p)), some (.int (nI n))] _ [.int (nI 1024), .int (nI (wd l p))] rfl ?_
    refine ar_idiv M_R_holdsAt rfl (by decide) ?_
    refine ar_top (w := .int (nI ((wd l p) / 1024))) (congrArg Value.int (pk_div (by omega) (by decide) (by decide))) ?_
    refine ar_go M_R_holdsAt 1 _ 19 _ [some (.ref r), some (.int (nI p)), some (.int (nI n))] _ [.int (nI n), .int (nI ((wd l p) / 1024))] rfl ?_
    refine ar_icmp M_R_holdsAt rfl rfl (fun hc2 => ?_) (fun hc2 => ?_)
    · have hc2 := c2_ne_t (a := ((wd l p) / 1024)) (b := n) (by omega) (by omega) hc2
      refine ar_go M_R_holdsAt 1 _ 27 _ [some (.ref r), some (.int (nI p)), some (.int (nI n))] _ [.int (nI 0)] rfl ?_
      exact ar_zret M_R_holdsAt rfl rfl (Or.inl rfl) (⟨by simp [hasAt, bi, hc, hc2, nI], rfl⟩)
    · have hc2 := c2_ne_f (a := ((wd l p) / 1024)) (b := n) (by omega) (by omega) hc2
      refine ar_go M_R_holdsAt 2 _ 27 _ [some (.ref r), some (.int (nI p)), some (.int (nI n))] _ [.int (nI 1)] rfl ?_
      exact ar_zret M_R_holdsAt rfl rfl (Or.inr rfl) (⟨by simp [hasAt, bi, hc, hc2, nI], rfl⟩)
theorem c_R_versionAt (X : am_X) (d : Nat) (h : am_H) {r p : Nat} {l : Bk} (hR : isR h r l) (hrs : r < 1000) (hW : bkW l) (hp : p < l.length) : ar Pg X d n_R_versionAt 0 [some (.ref r), some (.int (nI p))] [] h (fun rr h' => rr = some (.int (nI (wd l p % 1024))) ∧ h' = h) := by
  obtain ⟨hlen, hr, f, g, m, hw, hg, hm, hfa⟩ := hR
  have hwp := hW p hp
  refine ar_go M_R_versionAt 1 _ 1 _ [some (.ref r), some (.int (nI p))] _ [.ref r] rfl ?_
  refine ar_get M_R_versionAt rfl rfl hr rfl ?_
  refine ar_go M_R_versionAt 1 _ 5 _ [some (.ref r), some (.int (nI p))] _ [.int (nI p), .ref (r + 1)] rfl ?_
  refine ar_iald M_R_versionAt rfl (by unfold am_x0; omega) hw (vp_in_nI (by omega) (by decide)) ?_
  rw [nI_clamp (n := p) (by omega)]
  refine ar_top (w := .int (nI (wd l p))) (congrArg Value.int ((hfa p (by omega)).1)) ?_
  refine ar_go M_R_versionAt 1 _ 9 _ [some (.ref r), some (.int (nI p))] _ [.int (nI 1024), .int (nI (wd l p))] rfl ?_
  refine ar_irem M_R_versionAt rfl (by decide) ?_
  refine ar_top (w := .int (nI ((wd l p) % 1024))) (congrArg Value.int (pk_rem (by omega) (by decide) (by decide))) ?_
  exact ar_R M_R_versionAt rfl rfl rfl rfl (⟨rfl, rfl⟩)
end
section
/-! Records: copyRecord, store -/
theorem nar_bi (b : Bool) : vp_nar .boolean (bi b) = bi b := by cases b <;> decide
/-- the three arrays of a Records -/
def isA (h : am_H) (r : Nat) (f g m : Nat → Int32) : Prop := h[r + 1]? = some (.inl (0, 64, .inl f)) ∧ h[r + 2]? = some (.inl (0, 64, .inl g)) ∧ h[r + 3]? = some (.inl (2, 64, .inl m))
def isO (h : am_H) (r : Nat) (c : Int32) : Prop := h[r]? = some (.inr (1, [.ref (r + 1), .ref (r + 2), .ref (r + 3), .int c]))
theorem isA.fr {h h1 : am_H} {r : Nat} {f g m : Nat → Int32} {l : List Nat} (hA : isA h r f g m) (hf : fr l h h1) (h1' : r + 1 ∉ l) (h2 : r + 2 ∉ l) (h3 : r + 3 ∉ l) : isA h1 r f g m := ⟨hf.at hA.1 h1', hf.at hA.2.1 h2, hf.at hA.2.2 h3⟩
theorem isO.fr {h h1 : am_H} {r : Nat} {c : Int32} {l : List Nat} (hA : isO h r c) (hf : fr l h h1) (h1' : r ∉ l) : isO h1 r c := hf.at hA h1'
/-- arrays that hold a bank -/
def isC (l : Bk) (f g m : Nat → Int32) : Prop := ∀ i, i < l.length → f i = nI (wd l i) ∧ g i = gd l i ∧ m i = bi (dd l i)
theorem isR_iff {h : am_H} {r : Nat} {l : Bk} : isR h r l ↔ l.length ≤ 64 ∧ isO h r (nI l.length) ∧ ∃ f g m, isA h r f g m ∧ isC l f g m := by
  constructor
  · rintro ⟨h1, h2, f, g, m, h3, h4, h5, h6⟩
    exact ⟨h1, h2, f, g, m, ⟨h3, h4, h5⟩, h6⟩
  · rintro ⟨h1, h2, f, g, m, ⟨h3, h4, h5⟩, h6⟩
    exact ⟨h1, h2, f, g, m, h3, h4, h5, h6⟩
theorem isR.fr {h h1 : am_H} {r : Nat} {l : Bk} {s : List Nat} (hR : isR h r l) (hf : fr s h h1) (h0 : r ∉ s) (h1' : r + 1 ∉ s) (h2 : r + 2 ∉ s) (h3 : r + 3 ∉ s) : isR h1 r l := by
  rw [isR_iff] at hR ⊢
  obtain ⟨a, b, f, g, m, c, d⟩ := hR
  exact ⟨a, b.fr hf h0, f, g, m, c.fr hf h1' h2 h3, d⟩
theorem c_R_copyRecord (X : am_X) (d : Nat) (h : am_H) {r s a b : Nat} {c c2 : Int32} {f g m f2 g2 m2 : Nat → Int32} (hrs : r < 1000) (hss : s < 1000) (hap : s = r ∨ s + 4 ≤ r ∨ r + 4 ≤ s) (hO : isO h r c) (hA : isA h r f g m) (hO2 : isO h s c2) (hA2 : isA h s f2 g2 m2) (ha : a < 64) (hb : b < 64) (hnar : vp_nar .boolean (m2 a) = m2 a) : ar Pg X d n_R_copyRecord 0 [some (.ref r), some (.ref s), some (.int (nI a)), some (.int (nI b))] [] h (fun rr h' => rr = none ∧ fr [r + 1, r + 2, r + 3] h h' ∧ isA h' r (upd f b (f2 a)) (upd g b (g2 a)) (upd m b (m2 a))) := by
  have hr : h[r]? = some (.inr (1, [.ref (r + 1), .ref (r + 2), .ref (r + 3), .int c])) := hO
  have hs : h[s]? = some (.inr (1, [.ref (s + 1), .ref (s + 2), .ref (s + 3), .int c2])) := hO2
  obtain ⟨hw, hg, hm⟩ := hA
  obtain ⟨hw2, hg2, hm2⟩ := hA2
  refine ar_go M_R_copyRecord 1 _ 1 _ [some (.ref r), some (.ref s), some (.int (nI a)), some (.int (nI b))] _ [.ref r] rfl ?_
  refine ar_get M_R_copyRecord rfl rfl hr rfl ?_
  refine ar_go M_R_copyRecord 2 _ 6 _ [some (.ref r), some (.ref s), some (.int (nI a)), some (.int (nI b))] _ [.ref s, .int (nI b), .ref (r + 1)] rfl ?_
  refine ar_get M_R_copyRecord rfl rfl hs rfl ?_
  refine ar_go M_R_copyRecord 1 _ 10 _ [some (.ref r), some (.ref s), some (.int (nI a)), some (.int (nI b))] _ [.int (nI a), .ref (s + 1), .int (nI b), .ref (r + 1)] rfl ?_
  refine ar_iald M_R_copyRecord rfl (by unfold am_x0; omega) hw2 (vp_in_nI (by omega) (by decide)) ?_
  rw [nI_clamp (n := a) (by omega)]
  refine ar_iast M_R_copyRecord rfl hw (vp_in_nI (by omega) (by decide)) (fun h2 hf he => ?_)
  rw [nI_clamp (n := b) (by omega)] at he
  have hr := hf.at hr (by simp only [List.mem_cons, List.not_mem_nil, or_false]; omega)
  have hg := hf.at hg (by simp only [List.mem_cons, List.not_mem_nil, or_false]; omega)
  have hm := hf.at hm (by simp only [List.mem_cons, List.not_mem_nil, or_false]; omega)
  have hs := hf.at hs (by simp only [List.mem_cons, List.not_mem_nil, or_false]; omega)
  have hg2 := hf.at hg2 (by simp only [List.mem_cons, List.not_mem_nil, or_false]; omega)
  have hm2 := hf.at hm2 (by simp only [List.mem_cons, List.not_mem_nil, or_false]; omega)
  have hw : h2[(r + 1)]? = some (.inl (0, 64, .inl (upd f b (f2 a)))) := he
  have k1 := hf
  refine ar_go M_R_copyRecord 1 _ 13 _ [some (.ref r), some (.ref s), some (.int (nI a)), some (.int (nI b))] _ [.ref r] rfl ?_
  refine ar_get M_R_copyRecord rfl rfl hr rfl ?_
  refine ar_go M_R_copyRecord 2 _ 18 _ [some (.ref r), some (.ref s), some (.int (nI a)), some (.int (nI b))] _ [.ref s, .int (nI b), .ref (r + 2)] rfl ?_
  refine ar_get M_R_copyRecord rfl rfl hs rfl ?_
  refine ar_go M_R_copyRecord 1 _ 22 _ [some (.ref r), some (.ref s), some (.int (nI a)), some (.int (nI b))] _ [.int (nI a), .ref (s + 2), .int (nI b), .ref (r + 2)] rfl ?_
  refine ar_iald M_R_copyRecord rfl (by unfold am_x0; omega) hg2 (vp_in_nI (by omega) (by decide)) ?_
  rw [nI_clamp (n := a) (by omega)]
  refine ar_iast M_R_copyRecord rfl hg (vp_in_nI (by omega) (by decide)) (fun h3 hf he => ?_)
  rw [nI_clamp (n := b) (by omega)] at he
  have hr := hf.at hr (by simp only [List.mem_cons, List.not_mem_nil, or_false]; omega)
  have hw := hf.at hw (by simp only [List.mem_cons, List.not_mem_nil, or_false]; omega)
  have hm := hf.at hm (by simp only [List.mem_cons, List.not_mem_nil, or_false]; omega)
  have hs := hf.at hs (by simp only [List.mem_cons, List.not_mem_nil, or_false]; omega)
  have hm2 := hf.at hm2 (by simp only [List.mem_cons, List.not_mem_nil, or_false]; omega)
  have hg : h3[(r + 2)]? = some (.inl (0, 64, .inl (upd g b (g2 a)))) := he
  have k2 := hf
  refine ar_go M_R_copyRecord 1 _ 25 _ [some (.ref r), some (.ref s), some (.int (nI a)), some (.int (nI b))] _ [.ref r] rfl ?_
  refine ar_get M_R_copyRecord rfl rfl hr rfl ?_
  refine ar_go M_R_copyRecord 2 _ 30 _ [some (.ref r), some (.ref s), some (.int (nI a)), some (.int (nI b))] _ [.ref s, .int (nI b), .ref (r + 3)] rfl ?_
  refine ar_get M_R_copyRecord rfl rfl hs rfl ?_
  refine ar_go M_R_copyRecord 1 _ 34 _ [some (.ref r), some (.ref s), some (.int (nI a)), some (.int (nI b))] _ [.int (nI a), .ref (s + 3), .int (nI b), .ref (r + 3)] rfl ?_
  refine ar_zald M_R_copyRecord rfl hm2 (vp_in_nI (by omega) (by decide)) ?_
  rw [nI_clamp (n := a) (by omega)]
  refine ar_zast M_R_copyRecord rfl hm (vp_in_nI (by omega) (by decide)) (fun h4 hf he => ?_)
  rw [nI_clamp (n := b) (by omega)] at he
  have hr := hf.at hr (by simp only [List.mem_cons, List.not_mem_nil, or_false]; omega)
  have hw := hf.at hw (by simp only [List.mem_cons, List.not_mem_nil, or_false]; omega)
  have hg := hf.at hg (by simp only [List.mem_cons, List.not_mem_nil, or_false]; omega)
  have hs := hf.at hs (by simp only [List.mem_cons, List.not_mem_nil, or_false]; omega)
  have hm : h4[(r + 3)]? = some (.inl (2, 64, .inl (upd m b (vp_nar .boolean (m2 a))))) := he
  have k3 := hf
  rw [hnar] at hm
  exact ar_R M_R_copyRecord rfl rfl rfl rfl (⟨rfl, k1.tr (k2.tr k3 (l := [r + 2, r + 3]) (by simp) (by simp)) (by simp) (by simp), hw, hg, hm⟩)
theorem c_R_st_end (X : am_X) (d : Nat) (h : am_H) {r W p : Nat} {c gr : Int32} {bb : Bool} {x5 : Option Value} {f g m : Nat → Int32} (hrs : r < 1000) (hO : isO h r c) (hA : isA h r f g m) (hp : p < 64) : ar Pg X d n_R_store 75 [some (.ref r), some (.int (nI W)), some (.int gr), some (.int (bi bb)), some (.int (nI p)), x5] [] h (fun rr h' => rr = none ∧ fr [r + 1, r + 2, r + 3] h h' ∧ isA h' r (upd f p (nI W)) (upd g p gr) (upd m p (bi bb))) := by
  have hr : h[r]? = some (.inr (1, [.ref (r + 1), .ref (r + 2), .ref (r + 3), .int c])) := hO
  obtain ⟨hw, hg, hm⟩ := hA
  refine ar_go M_R_store 1 _ 76 _ [some (.ref r), some (.int (nI W)), some (.int gr), some (.int (bi bb)), some (.int (nI p)), x5] _ [.ref r] rfl ?_
  refine ar_get M_R_store rfl rfl hr rfl ?_
  refine ar_go M_R_store 2 _ 82 _ [some (.ref r), some (.int (nI W)), some (.int gr), some (.int (bi bb)), some (.int (nI p)), x5] _ [.int (nI W), .int (nI p), .ref (r + 1)] rfl ?_
  refine ar_iast M_R_store rfl hw (vp_in_nI (by omega) (by decide)) (fun h2 hf he => ?_)
  rw [nI_clamp (n := p) (by omega)] at he
  have hr := hf.at hr (by simp only [List.mem_cons, List.not_mem_nil, or_false]; omega)
  have hg := hf.at hg (by simp only [List.mem_cons, List.not_mem_nil, or_false]; omega)
  have hm := hf.at hm (by simp only [List.mem_cons, List.not_mem_nil, or_false]; omega)
  have hw : h2[(r + 1)]? = some (.inl (0, 64, .inl (upd f p (nI W)))) := he
  have k1 := hf
  refine ar_go M_R_store 1 _ 84 _ [some (.ref r), some (.int (nI W)), some (.int gr), some (.int (bi bb)), some (.int (nI p)), x5] _ [.ref r] rfl ?_
  refine ar_get M_R_store rfl rfl hr rfl ?_
  refine ar_go M_R_store 2 _ 90 _ [some (.ref r), some (.int (nI W)), some (.int gr), some (.int (bi bb)), some (.int (nI p)), x5] _ [.int gr, .int (nI p), .ref (r + 2)] rfl ?_
  refine ar_iast M_R_store rfl hg (vp_in_nI (by omega) (by decide)) (fun h3 hf he => ?_)
  rw [nI_clamp (n := p) (by omega)] at he
  have hr := hf.at hr (by simp only [List.mem_cons, List.not_mem_nil, or_false]; omega)
  have hw := hf.at hw (by simp only [List.mem_cons, List.not_mem_nil, or_false]; omega)
  have hm := hf.at hm (by simp only [List.mem_cons, List.not_mem_nil, or_false]; omega)
  have hg : h3[(r + 2)]? = some (.inl (0, 64, .inl (upd g p gr))) := he
  have k2 := hf
  refine ar_go M_R_store 1 _ 92 _ [some (.ref r), some (.int (nI W)), some (.int gr), some (.int (bi bb)), some (.int (nI p)), x5] _ [.ref r] rfl ?_
  refine ar_get M_R_store rfl rfl hr rfl ?_
  refine ar_go M_R_store 2 _ 98 _ [some (.ref r), some (.int (nI W)), some (.int gr), some (.int (bi bb)), some (.int (nI p)), x5] _ [.int (bi bb), .int (nI p), .ref (r + 3)] rfl ?_
  refine ar_zast M_R_store rfl hm (vp_in_nI (by omega) (by decide)) (fun h4 hf he => ?_)
  rw [nI_clamp (n := p) (by omega)] at he
  have hr := hf.at hr (by simp only [List.mem_cons, List.not_mem_nil, or_false]; omega)
  have hw := hf.at hw (by simp only [List.mem_cons, List.not_mem_nil, or_false]; omega)
  have hg := hf.at hg (by simp only [List.mem_cons, List.not_mem_nil, or_false]; omega)
  have hm : h4[(r + 3)]? = some (.inl (2, 64, .inl (upd m p (vp_nar .boolean (bi bb))))) := he
  have k3 := hf
  rw [nar_bi] at hm
  exact ar_R M_R_store rfl rfl rfl rfl (⟨rfl, k1.tr (k2.tr k3 (l := [r + 2, r + 3]) (by simp) (by simp)) (by simp) (by simp), hw, hg, hm⟩)
/-- the places behind i have moved up by one -/
def shf (f f0 : Nat → Int32) (i n : Nat) : Prop := (∀ j, j ≤ i → f j = f0 j) ∧ ∀ j, i < j → j ≤ n → f j = f0 (j - 1)
theorem shf.step {f f0 : Nat → Int32} {i n : Nat} (h : shf f f0 (i + 1) n) (_hi : i + 1 ≤ n) : shf (upd f (i + 1) (f i)) f0 i n := by
  refine ⟨fun j hj => ?_, fun j h1 h2 => ?_⟩
  · rw [pk_un (by omega)]
    exact h.1 j (by omega)
  · by_cases e : j = i + 1
    · subst e
      rw [pk_us]
      exact h.1 i (by omega)
    · rw [pk_un e]
      exact h.2 j (by omega) h2
theorem c_R_st_loop (X : am_X) (d : Nat) (h : am_H) {r W p n : Nat} {c gr : Int32} {bb : Bool} {f0 g0 m0 : Nat → Int32} {md : Nat → Bool} {Q : Option Value → am_H → Prop} (hrs : r < 1000) (hn : n < 64) (hm0 : ∀ i, i < n → m0 i = bi (md i))
    (K : ∀ (h1 : am_H) (f g m : Nat → Int32), shf f f0 p n → shf g g0 p n → shf m m0 p n → isO h1 r c → isA h1 r f g m → fr [r + 1, r + 2, r + 3] h h1 → ar Pg X (d + 1) n_R_store 65 [some (.ref r), some (.int (nI W)), some (.int gr), some (.int (bi bb)), some (.int (nI p)), some (.int (nI p))] [] h1 Q) :
    ∀ (k i : Nat) (h1 : am_H) (f g m : Nat → Int32), i - p = k → p ≤ i ∧ i ≤ n → shf f f0 i n → shf g g0 i n → shf m m0 i n → isO h1 r c → isA h1 r f g m → fr [r + 1, r + 2, r + 3] h h1 → ar Pg X (d + 1) n_R_store 41 [some (.ref r), some (.int (nI W)), some (.int gr), some (.int (bi bb)), some (.int (nI p)), some (.int (nI i))] [] h1 Q := by
  intro k
  induction k with
  | zero =>
    intro i h1 f g m hk hpi hS1 hS2 hS3 hO hA hF
    have hi : i = p := by omega
    subst hi
    refine ar_go M_R_store 2 _ 45 _ [some (.ref r), some (.int (nI W)), some (.int gr), some (.int (bi bb)), some (.int (nI i)), some (.int (nI i))] _ [.int (nI i), .int (nI i)] rfl ?_
    refine ar_icmp M_R_store rfl rfl (fun _ => K _ _ _ _ hS1 hS2 hS3 hO hA hF) (fun hc => ?_)
    have hc := c2_le_f (a := i) (b := i) (by omega) (by omega) hc
    omega
  | succ k ih =>
    intro i h1 f g m hk hpi hS1 hS2 hS3 hO hA hF
    have hr : h1[r]? = some (.inr (1, [.ref (r + 1), .ref (r + 2), .ref (r + 3), .int c])) := hO
    refine ar_go M_R_store 2 _ 45 _ [some (.ref r), some (.int (nI W)), some (.int gr), some (.int (bi bb)), some (.int (nI p)), some (.int (nI i))] _ [.int (nI p), .int (nI i)] rfl ?_
    refine ar_icmp M_R_store rfl rfl (fun hc => ?_) (fun hc => ?_)
    · have hc := c2_le_t (a := i) (b := p) (by omega) (by omega) hc
      have hi : i = p := by omega
      subst hi
      exact K _ _ _ _ hS1 hS2 hS3 hO hA hF
    · have hc := c2_le_f (a := i) (b := p) (by omega) (by omega) hc
      obtain ⟨i, rfl⟩ : ∃ q, i = q + 1 := ⟨i - 1, by omega⟩
      refine ar_go M_R_store 5 _ 54 _ [some (.ref r), some (.int (nI W)), some (.int gr), some (.int (bi bb)), some (.int (nI p)), some (.int (nI (i + 1)))] _ [.int (nI (i + 1) - nI 1), .ref r, .ref r] rfl ?_
      refine ar_top (w := .int (nI i)) (congrArg Value.int (nI_pred i)) ?_
      refine ar_go M_R_store 1 _ 56 _ [some (.ref r), some (.int (nI W)), some (.int gr), some (.int (bi bb)), some (.int (nI p)), some (.int (nI (i + 1)))] _ [.int (nI (i + 1)), .int (nI i), .ref r, .ref r] rfl ?_
      refine ar_CV M_R_store rfl rfl (Or.inl rfl) rfl rfl (Nat.le_of_ble_eq_true rfl) hr M_R_copyRecord (Nat.le_of_ble_eq_true rfl) (c_R_copyRecord X d h1 hrs hrs (Or.inl rfl) hO hA hO hA (by omega) (by omega) (by rw [hS3.1 i (by omega), hm0 i (by omega)]; exact nar_bi _)) (fun r1 h2 hq => ?_)
      obtain ⟨rfl, hf, hA2⟩ := hq
      refine ⟨hf.1, ?_⟩
      show ar Pg _ _ _ 59 [some (.ref r), some (.int (nI W)), some (.int gr), some (.int (bi bb)), some (.int (nI p)), some (.int (nI (i + 1)))] [] _ _
      refine ar_go M_R_store 1 _ 62 _ [some (.ref r), some (.int (nI W)), some (.int gr), some (.int (bi bb)), some (.int (nI p)), some (.int (nI (i + 1) + Int32.ofInt (-1)))] _ [] rfl ?_
      rw [show nI (i + 1) + Int32.ofInt (-1) = nI i from pk_m1 i]
      refine ar_go M_R_store 1 _ 41 _ [some (.ref r), some (.int (nI W)), some (.int gr), some (.int (bi bb)), some (.int (nI p)), some (.int (nI i))] _ [] rfl ?_
      exact ih i h2 _ _ _ (by omega) (by omega) (hS1.step (by omega)) (hS2.step (by omega)) (hS3.step (by omega)) (hO.fr hf (by simp)) hA2 (hF.tr hf (by simp) (by simp))
end
section
/-! Banks as lists: places, storing -/
theorem wd_eq (l : Bk) (i : Nat) : wd l i = ((l[i]?).getD (0, 0, false)).1 := by unfold wd; rw [List.getD_eq_getElem?_getD]
theorem gd_eq (l : Bk) (i : Nat) : gd l i = ((l[i]?).getD (0, 0, false)).2.1 := by unfold gd; rw [List.getD_eq_getElem?_getD]
theorem dd_eq (l : Bk) (i : Nat) : dd l i = ((l[i]?).getD (0, 0, false)).2.2 := by unfold dd; rw [List.getD_eq_getElem?_getD]
theorem wd_succ (e : Nat × Int32 × Bool) (t : Bk) (i : Nat) : wd (e :: t) (i + 1) = wd t i := by rw [wd_eq, wd_eq]; simp
theorem wd_zero (e : Nat × Int32 × Bool) (t : Bk) : wd (e :: t) 0 = e.1 := by rw [wd_eq]; simp
def pos : Bk → Nat → Nat
  | [], _ => 0
  | e :: t, n => if e.1 / 1024 < n then pos t n + 1 else 0
theorem bkS_tail {e : Nat × Int32 × Bool} {t : Bk} (h : bkS (e :: t)) : bkS t := fun i j hij hj => by
  have := h (i + 1) (j + 1) (by omega) (by simp; omega)
  rwa [wd_succ, wd_succ] at this
theorem pos_pl : ∀ (l : Bk) (n : Nat), bkS l → isPl l n (pos l n)
  | [], n, _ => ⟨Nat.le_refl _, fun i h => absurd h (Nat.not_lt_zero _), fun i _ h => absurd h (Nat.not_lt_zero _)⟩
  | e :: t, n, hS => by
    have ih := pos_pl t n (bkS_tail hS)
    rw [pos]
    by_cases hc : e.1 / 1024 < n
    · rw [if_pos hc]
      refine ⟨by simp only [List.length_cons]; have := ih.1; omega, fun i hi => ?_, fun i h1 h2 => ?_⟩
      · cases i with
        | zero => rw [wd_zero]; exact hc
        | succ i => rw [wd_succ]; exact ih.2.1 i (by omega)
      · cases i with
        | zero => omega
        | succ i => rw [wd_succ]; exact ih.2.2 i (by omega) (by simpa using h2)
    · rw [if_neg hc]
      refine ⟨Nat.zero_le _, fun i hi => by omega, fun i _ h2 => ?_⟩
      cases i with
      | zero => rw [wd_zero]; omega
      | succ i =>
        have := hS 0 (i + 1) (by omega) h2
        rw [wd_zero] at this
        omega
theorem isPl.uniq {l : Bk} {n p q : Nat} (hp : isPl l n p) (hq : isPl l n q) : p = q := by
  rcases Nat.lt_trichotomy p q with h | h | h
  · have a := hq.2.1 p h
    have b := hp.2.2 p (Nat.le_refl _) (by have := hq.1; omega)
    omega
  · exact h
  · have a := hp.2.1 q h
    have b := hq.2.2 q (Nat.le_refl _) (by have := hp.1; omega)
    omega
def insP (l : Bk) (p : Nat) (e : Nat × Int32 × Bool) : Bk := l.take p ++ e :: l.drop p
theorem insP_get {l : Bk} {p : Nat} (hp : p ≤ l.length) (e : Nat × Int32 × Bool) (j : Nat) : (insP l p e)[j]? = if j < p then l[j]? else if j = p then some e else l[j - 1]? := by
  unfold insP
  have hl : (l.take p).length = p := by rw [List.length_take]; omega
  by_cases h1 : j < p
  · rw [if_pos h1, List.getElem?_append_left (by omega), List.getElem?_take_of_lt h1]
  · rw [if_neg h1, List.getElem?_append_right (by omega), hl]
    by_cases h2 : j = p
    · subst h2
      rw [if_pos rfl, Nat.sub_self]
      rfl
    · rw [if_neg h2]
      obtain ⟨q, hq⟩ : ∃ q, j - p = q + 1 := ⟨j - p - 1, by omega⟩
      rw [hq, List.getElem?_cons_succ, List.getElem?_drop]
      congr 1
      omega
theorem insP_len {l : Bk} {p : Nat} (hp : p ≤ l.length) (e : Nat × Int32 × Bool) : (insP l p e).length = l.length + 1 := by
  unfold insP
  rw [List.length_append, List.length_cons, List.length_take, List.length_drop]
  omega
theorem insP_wd {l : Bk} {p : Nat} (hp : p ≤ l.length) (e : Nat × Int32 × Bool) (j : Nat) : wd (insP l p e) j = if j < p then wd l j else if j = p then e.1 else wd l (j - 1) := by
  rw [wd_eq, insP_get hp]
  split
  · rw [wd_eq]
  · split
    · rfl
    · rw [wd_eq]
theorem insP_gd {l : Bk} {p : Nat} (hp : p ≤ l.length) (e : Nat × Int32 × Bool) (j : Nat) : gd (insP l p e) j = if j < p then gd l j else if j = p then e.2.1 else gd l (j - 1) := by
  rw [gd_eq, insP_get hp]
  split
  · rw [gd_eq]
  · split
    · rfl
    · rw [gd_eq]
theorem insP_dd {l : Bk} {p : Nat} (hp : p ≤ l.length) (e : Nat × Int32 × Bool) (j : Nat) : dd (insP l p e) j = if j < p then dd l j else if j = p then e.2.2 else dd l (j - 1) := by
  rw [dd_eq, insP_get hp]
  split
  · rw [dd_eq]
  · split
    · rfl
    · rw [dd_eq]
theorem set_wd {l : Bk} {p : Nat} (hp : p < l.length) (e : Nat × Int32 × Bool) (j : Nat) : wd (l.set p e) j = if j = p then e.1 else wd l j := by
  rw [wd_eq, List.getElem?_set]
  by_cases h : j = p
  · subst h
    simp [hp]
  · rw [if_neg (fun z => h z.symm), if_neg h, wd_eq]
theorem set_gd {l : Bk} {p : Nat} (hp : p < l.length) (e : Nat × Int32 × Bool) (j : Nat) : gd (l.set p e) j = if j = p then e.2.1 else gd l j := by
  rw [gd_eq, List.getElem?_set]
  by_cases h : j = p
  · subst h
    simp [hp]
  · rw [if_neg (fun z => h z.symm), if_neg h, gd_eq]
theorem set_dd {l : Bk} {p : Nat} (hp : p < l.length) (e : Nat × Int32 × Bool) (j : Nat) : dd (l.set p e) j = if j = p then e.2.2 else dd l j := by
  rw [dd_eq, List.getElem?_set]
  by_cases h : j = p
  · subst h
    simp [hp]
  · rw [if_neg (fun z => h z.symm), if_neg h, dd_eq]
/-- a record stored: in place of the one of its number, or put in, if there is room -/
def stR (l : Bk) (e : Nat × Int32 × Bool) : Bk := if hasAt l (pos l (e.1 / 1024)) (e.1 / 1024) = true then l.set (pos l (e.1 / 1024)) e else if 64 ≤ l.length then l else insP l (pos l (e.1 / 1024)) e
theorem hasAt_iff {l : Bk} {p n : Nat} : hasAt l p n = true ↔ p < l.length ∧ wd l p / 1024 = n := by simp [hasAt]
theorem stR_S {l : Bk} (hS : bkS l) (e : Nat × Int32 × Bool) : bkS (stR l e) := by
  have hp := pos_pl l (e.1 / 1024) hS
  unfold stR
  split
  next h =>
    rw [hasAt_iff] at h
    intro i j hij hj
    rw [List.length_set] at hj
    have h0 := hS i j hij hj
    rw [set_wd h.1, set_wd h.1]
    split
    · subst_vars
      split
      · omega
      · rw [← h.2]; exact h0
    · split
      · subst_vars
        rw [← h.2]; exact h0
      · exact h0
  next h =>
    rw [hasAt_iff] at h
    split
    · exact hS
    · intro i j hij hj
      rw [insP_len hp.1] at hj
      rw [insP_wd hp.1, insP_wd hp.1]
      have key : ∀ q, pos l (e.1 / 1024) ≤ q → q < l.length → e.1 / 1024 < wd l q / 1024 := by
        intro q h1 h2
        have a := hp.2.2 q h1 h2
        by_cases hq : q = pos l (e.1 / 1024)
        · have : ¬ wd l q / 1024 = e.1 / 1024 := fun z => h ⟨by rw [← hq]; exact h2, by rw [← hq]; exact z⟩
          omega
        · have b := hS (pos l (e.1 / 1024)) q (by omega) h2
          have c := hp.2.2 (pos l (e.1 / 1024)) (Nat.le_refl _) (by omega)
          omega
      by_cases h1 : i < pos l (e.1 / 1024)
      · rw [if_pos h1]
        by_cases h2 : j < pos l (e.1 / 1024)
        · rw [if_pos h2]
          exact hS i j hij (by have := hp.1; omega)
        · rw [if_neg h2]
          by_cases h3 : j = pos l (e.1 / 1024)
          · rw [if_pos h3]
            exact hp.2.1 i h1
          · rw [if_neg h3]
            exact hS i (j - 1) (by omega) (by omega)
      · rw [if_neg h1, if_neg (by omega : ¬ j < pos l (e.1 / 1024)), if_neg (by omega : ¬ j = pos l (e.1 / 1024))]
        by_cases h3 : i = pos l (e.1 / 1024)
        · rw [if_pos h3]
          exact key (j - 1) (by omega) (by omega)
        · rw [if_neg h3]
          exact hS (i - 1) (j - 1) (by omega) (by omega)
theorem stR_W {l : Bk} (hS : bkS l) (hW : bkW l) {e : Nat × Int32 × Bool} (he : e.1 < 1073741824) : bkW (stR l e) := by
  have hp := pos_pl l (e.1 / 1024) hS
  unfold stR
  split
  next h =>
    rw [hasAt_iff] at h
    intro i hi
    rw [List.length_set] at hi
    rw [set_wd h.1]
    split
    · exact he
    · exact hW i hi
  next h =>
    split
    · exact hW
    · intro i hi
      rw [insP_len hp.1] at hi
      rw [insP_wd hp.1]
      split
      · exact hW i (by have := hp.1; omega)
      · split
        · exact he
        · exact hW (i - 1) (by omega)
theorem stR_len {l : Bk} (hl : l.length ≤ 64) (hS : bkS l) (e : Nat × Int32 × Bool) : (stR l e).length ≤ 64 := by
  have hp := pos_pl l (e.1 / 1024) hS
  unfold stR
  split
  · rw [List.length_set]; exact hl
  · split
    · exact hl
    · rw [insP_len hp.1]; omega
end
section
/-! Records: store, and what walks over all records -/
theorem c_R_pos (X : am_X) (d : Nat) (h : am_H) {r n : Nat} {l : Bk} (hR : isR h r l) (hrs : r < 1000) (hS : bkS l) (hW : bkW l) (hn : n < 2 ^ 31) : ar Pg X d n_R_placeOf 0 [some (.ref r), some (.int (nI n)), none, none, none] [] h (fun rr h' => rr = some (.int (nI (pos l n))) ∧ h' = h) :=
  ar_mono (c_R_placeOf X d h hR hrs hS hW hn) (fun rr h' ⟨p, h1, h2, h3⟩ => ⟨by rw [h2, h1.uniq (pos_pl l n hS)], h3⟩)
theorem isC_set {l : Bk} {f g m : Nat → Int32} (hC : isC l f g m) {p : Nat} (hp : p < l.length) (e : Nat × Int32 × Bool) : isC (l.set p e) (upd f p (nI e.1)) (upd g p e.2.1) (upd m p (bi e.2.2)) := by
  intro i hi
  rw [List.length_set] at hi
  rw [set_wd hp, set_gd hp, set_dd hp]
  by_cases h : i = p
  · subst h
    rw [if_pos rfl, if_pos rfl, if_pos rfl, pk_us, pk_us, pk_us]
    exact ⟨rfl, rfl, rfl⟩
  · rw [if_neg h, if_neg h, if_neg h, pk_un h, pk_un h, pk_un h]
    exact hC i hi
theorem isC_ins {l : Bk} {f0 g0 m0 f g m : Nat → Int32} (hC : isC l f0 g0 m0) {p : Nat} (hp : p ≤ l.length) (h1 : shf f f0 p l.length) (h2 : shf g g0 p l.length) (h3 : shf m m0 p l.length) (e : Nat × Int32 × Bool) : isC (insP l p e) (upd f p (nI e.1)) (upd g p e.2.1) (upd m p (bi e.2.2)) := by
  intro i hi
  rw [insP_len hp] at hi
  rw [insP_wd hp, insP_gd hp, insP_dd hp]
  by_cases a : i < p
  · rw [if_pos a, if_pos a, if_pos a, pk_un (by omega), pk_un (by omega), pk_un (by omega), h1.1 i (by omega), h2.1 i (by omega), h3.1 i (by omega)]
    exact hC i (by omega)
  · rw [if_neg a, if_neg a, if_neg a]
    by_cases b : i = p
    · subst b
      rw [if_pos rfl, if_pos rfl, if_pos rfl, pk_us, pk_us, pk_us]
      exact ⟨rfl, rfl, rfl⟩
    · rw [if_neg b, if_neg b, if_neg b, pk_un b, pk_un b, pk_un b, h1.2 i (by omega) (by omega), h2.2 i (by omega) (by omega), h3.2 i (by omega) (by omega)]
      exact hC (i - 1) (by omega)
theorem c_R_store (X : am_X) (d : Nat) (h : am_H) {r W : Nat} {gr : Int32} {bb : Bool} {l : Bk} (hR : isR h r l) (hrs : r < 1000) (hS : bkS l) (hW : bkW l) (hWW : W < 1073741824) : ar Pg X (d + 1) n_R_store 0 [some (.ref r), some (.int (nI W)), some (.int gr), some (.int (bi bb)), none, none] [] h (fun rr h' => rr = none ∧ fr [r, r + 1, r + 2, r + 3] h h' ∧ isR h' r (stR l (W, gr, bb))) := by
  have hR0 := hR
  obtain ⟨hlen, hr, f, g, m, hw, hg, hm, hfa⟩ := hR
  refine ar_go M_R_store 3 _ 5 _ [some (.ref r), some (.int (nI W)), some (.int gr), some (.int (bi bb)), none, none] _ [.int (nI 1024), .int (nI W), .ref r] rfl ?_
  refine ar_idiv M_R_store rfl (by decide) ?_
  refine ar_top (w := .int (nI (W / 1024))) (congrArg Value.int (pk_div (by omega) (by decide) (by decide))) ?_
  refine ar_CV M_R_store rfl rfl (Or.inl rfl) rfl rfl (Nat.le_of_ble_eq_true rfl) hr M_R_placeOf (Nat.le_of_ble_eq_true rfl) (c_R_pos X d _ hR0 hrs hS hW (by omega)) (fun r1 h1 hq => ?_)
  obtain ⟨rfl, rfl⟩ := hq
  refine ⟨rfl, ?_⟩
  show ar Pg _ _ _ 9 [some (.ref r), some (.int (nI W)), some (.int gr), some (.int (bi bb)), none, none] [.int (nI (pos l (W / 1024)))] _ _
  have hpl := pos_pl l (W / 1024) hS
  obtain ⟨p, hpe⟩ : ∃ p, p = pos l (W / 1024) := ⟨_, rfl⟩
  rw [← hpe] at hpl ⊢
  have hpl1 := hpl.1
  refine ar_go M_R_store 5 _ 18 _ [some (.ref r), some (.int (nI W)), some (.int gr), some (.int (bi bb)), some (.int (nI p)), none] _ [.int (nI 1024), .int (nI W), .int (nI p), .ref r] rfl ?_
  refine ar_idiv M_R_store rfl (by decide) ?_
  refine ar_top (w := .int (nI (W / 1024))) (congrArg Value.int (pk_div (by omega) (by decide) (by decide))) ?_
  refine ar_CV M_R_store rfl rfl (Or.inl rfl) rfl rfl (Nat.le_of_ble_eq_true rfl) hr M_R_holdsAt (Nat.le_of_ble_eq_true rfl) (c_R_holdsAt X d _ hR0 hrs hW (by omega) (by omega)) (fun r1 h1 hq => ?_)
  obtain ⟨rfl, rfl⟩ := hq
  refine ⟨rfl, ?_⟩
  show ar Pg _ _ _ 22 [some (.ref r), some (.int (nI W)), some (.int gr), some (.int (bi bb)), some (.int (nI p)), none] [.int (bi (hasAt l p (W / 1024)))] _ _
  refine ar_if M_R_store rfl rfl (fun hc => ?_) (fun hc => ?_)
  · have hc := bi_ne_t hc
    have hh := hasAt_iff.mp hc
    refine ar_mono (c_R_st_end X (d + 1) _ hrs hr ⟨hw, hg, hm⟩ (by omega)) (fun rr h2 ⟨q1, q2, q3⟩ => ⟨q1, q2.mono (by simp), ?_⟩)
    unfold stR
    rw [← hpe, if_pos hc]
    exact isR_iff.mpr ⟨by rw [List.length_set]; exact hlen, by rw [List.length_set]; exact q2.at hr (by simp), _, _, _, q3, isC_set hfa hh.1 (W, gr, bb)⟩
  · have hc := bi_ne_f hc
    refine ar_go M_R_store 1 _ 26 _ [some (.ref r), some (.int (nI W)), some (.int gr), some (.int (bi bb)), some (.int (nI p)), none] _ [.ref r] rfl ?_
    refine ar_get M_R_store rfl rfl hr rfl ?_
    refine ar_go M_R_store 1 _ 31 _ [some (.ref r), some (.int (nI W)), some (.int gr), some (.int (bi bb)), some (.int (nI p)), none] _ [.int (nI 64), .int (nI l.length)] rfl ?_
    refine ar_icmp M_R_store rfl rfl (fun hc2 => ?_) (fun hc2 => ?_)
    · have hc2 := c2_lt_t (a := l.length) (b := 64) (by omega) (by omega) hc2
      refine ar_go M_R_store 1 _ 36 _ [some (.ref r), some (.int (nI W)), some (.int gr), some (.int (bi bb)), some (.int (nI p)), none] _ [.ref r] rfl ?_
      refine ar_get M_R_store rfl rfl hr rfl ?_
      refine ar_go M_R_store 1 _ 41 _ [some (.ref r), some (.int (nI W)), some (.int gr), some (.int (bi bb)), some (.int (nI p)), some (.int (nI l.length))] _ [] rfl ?_
      refine c_R_st_loop X d _ (md := dd l) hrs (by omega) (fun i hi => (hfa i hi).2.2) ?_ (l.length - p) l.length _ f g m rfl ⟨hpl.1, Nat.le_refl _⟩ ⟨fun _ _ => rfl, fun j h1 h2 => by omega⟩ ⟨fun _ _ => rfl, fun j h1 h2 => by omega⟩ ⟨fun _ _ => rfl, fun j h1 h2 => by omega⟩ hr ⟨hw, hg, hm⟩ (fr.rf _ _)
      clear hr hw hg hm
      intro h2 f2 g2 m2 s1 s2 s3 hO hA hF
      have hr : h2[r]? = some (.inr (1, [.ref (r + 1), .ref (r + 2), .ref (r + 3), .int (nI l.length)])) := hO
      obtain ⟨hw, hg, hm⟩ := hA
      refine ar_go M_R_store 2 _ 67 _ [some (.ref r), some (.int (nI W)), some (.int gr), some (.int (bi bb)), some (.int (nI p)), some (.int (nI p))] _ [.ref r, .ref r] rfl ?_
      refine ar_get M_R_store rfl rfl hr rfl ?_
      refine ar_go M_R_store 2 _ 72 _ [some (.ref r), some (.int (nI W)), some (.int gr), some (.int (bi bb)), some (.int (nI p)), some (.int (nI p))] _ [.int (nI l.length + nI 1), .ref r] rfl ?_
      refine ar_top (w := .int (nI (l.length + 1))) (congrArg Value.int (nI_add l.length 1)) ?_
      refine ar_put M_R_store rfl rfl hr (Nat.le_of_ble_eq_true rfl) rfl (Nat.le_of_ble_eq_true rfl) (fun h3 hf he => ?_)
      have hw := hf.at hw (by simp only [List.mem_cons, List.not_mem_nil, or_false]; omega)
      have hg := hf.at hg (by simp only [List.mem_cons, List.not_mem_nil, or_false]; omega)
      have hm := hf.at hm (by simp only [List.mem_cons, List.not_mem_nil, or_false]; omega)
      have hr : h3[r]? = some (.inr (1, [.ref (r + 1), .ref (r + 2), .ref (r + 3), .int (nI (l.length + 1))])) := he
      have k1 := hf
      refine ar_mono (c_R_st_end X (d + 1) _ hrs hr ⟨hw, hg, hm⟩ (by omega)) (fun rr h4 ⟨q1, q2, q3⟩ => ⟨q1, hF.tr (k1.tr q2 (l := [r, r + 1, r + 2, r + 3]) (by simp) (by simp)) (by simp) (by simp), ?_⟩)
      unfold stR
      rw [← hpe, if_neg (by rw [hc]; decide), if_neg (by omega)]
      exact isR_iff.mpr ⟨by rw [insP_len hpl.1]; omega, by rw [insP_len hpl.1]; exact q2.at hr (by simp), _, _, _, q3, isC_ins hfa hpl.1 s1 s2 s3 (W, gr, bb)⟩
    · have hc2 := c2_lt_f (a := l.length) (b := 64) (by omega) (by omega) hc2
      refine ar_R M_R_store rfl rfl rfl rfl ⟨rfl, fr.rf _ _, ?_⟩
      unfold stR
      rw [← hpe, if_neg (by rw [hc]; decide), if_pos (by omega)]
      exact hR0
/-- the sample: the product of x - word, modulo the prime -/
def smp (l : Bk) (x : Nat) : Nat → Nat
  | 0 => 1
  | i + 1 => smp l x i * (x - wd l i) % 2147483647
theorem smp_lt (l : Bk) (x : Nat) : ∀ i, smp l x i < 2147483647
  | 0 => by show 1 < 2147483647; decide
  | i + 1 => Nat.mod_lt _ (by decide)
theorem c_R_smp_loop (X : am_X) (d : Nat) (h : am_H) {r x : Nat} {l : Bk} (hR : isR h r l) (hrs : r < 1000) (hW : bkW l) (hx : 1073741824 ≤ x) (hx2 : x < 2147483647) : ∀ (k i : Nat), l.length - i < k → i ≤ l.length → ar Pg X (d + 1) n_R_sampleAt 5 [some (.ref r), some (.long (lN x)), none, some (.long (lN (smp l x i))), none, some (.int (nI i))] [] h (fun rr h' => rr = some (.long (lN (smp l x l.length))) ∧ h' = h) := by
  have hR0 := hR
  obtain ⟨hlen, hr, f, g, m, hw, hg, hm, hfa⟩ := hR
  intro k
  induction k with
  | zero => intro i hk; omega
  | succ k ih =>
    intro i hk hil
    refine ar_go M_R_sampleAt 2 _ 8 _ [some (.ref r), some (.long (lN x)), none, some (.long (lN (smp l x i))), none, some (.int (nI i))] _ [.ref r, .int (nI i)] rfl ?_
    refine ar_get M_R_sampleAt rfl rfl hr rfl ?_
    refine ar_icmp M_R_sampleAt rfl rfl (fun hc => ?_) (fun hc => ?_)
    · have hc := c2_ge_t (a := i) (b := l.length) (by omega) (by omega) hc
      have hi2 : i = l.length := by omega
      refine ar_go M_R_sampleAt 1 _ 36 _ [some (.ref r), some (.long (lN x)), none, some (.long (lN (smp l x i))), none, some (.int (nI i))] _ [.long (lN (smp l x i))] rfl ?_
      exact ar_R M_R_sampleAt rfl rfl rfl rfl (⟨by rw [hi2], rfl⟩)
    · have hc := c2_ge_f (a := i) (b := l.length) (by omega) (by omega) hc
      have hwi := hW i (by omega)
      refine ar_go M_R_sampleAt 3 _ 17 _ [some (.ref r), some (.long (lN x)), none, some (.long (lN (smp l x i))), none, some (.int (nI i))] _ [.ref r, .long (lN x), .long (lN (smp l x i))] rfl ?_
      refine ar_get M_R_sampleAt rfl rfl hr rfl ?_
      refine ar_go M_R_sampleAt 1 _ 22 _ [some (.ref r), some (.long (lN x)), none, some (.long (lN (smp l x i))), none, some (.int (nI i))] _ [.int (nI i), .ref (r + 1), .long (lN x), .long (lN (smp l x i))] rfl ?_
      refine ar_iald M_R_sampleAt rfl (by unfold am_x0; omega) hw (vp_in_nI (by omega) (by decide)) ?_
      rw [nI_clamp (n := i) (by omega)]
      refine ar_top (w := .int (nI (wd l i))) (congrArg Value.int ((hfa i (by omega)).1)) ?_
      refine ar_go M_R_sampleAt 1 _ 24 _ [some (.ref r), some (.long (lN x)), none, some (.long (lN (smp l x i))), none, some (.int (nI i))] _ [.long ((nI (wd l i)).toInt64), .long (lN x), .long (lN (smp l x i))] rfl ?_
      refine ar_top (w := .long (lN (wd l i))) (congrArg Value.long (nI_l (by omega))) ?_
      refine ar_go M_R_sampleAt 1 _ 25 _ [some (.ref r), some (.long (lN x)), none, some (.long (lN (smp l x i))), none, some (.int (nI i))] _ [.long (lN x - lN (wd l i)), .long (lN (smp l x i))] rfl ?_
      refine ar_top (w := .long (lN (x - (wd l i)))) (congrArg Value.long (lN_sub (by omega))) ?_
      refine ar_CS M_R_sampleAt rfl rfl (Nat.le_of_ble_eq_true rfl) rfl rfl (Nat.le_of_ble_eq_true rfl) M_F_times (Nat.le_of_ble_eq_true rfl) (c_F_times X d _ (Nat.lt_trans (smp_lt l x i) (by decide)) (by omega)) (fun r1 h1 hq => ?_)
      obtain ⟨rfl, rfl⟩ := hq
      refine ⟨rfl, ?_⟩
      show ar Pg _ _ _ 28 [some (.ref r), some (.long (lN x)), none, some (.long (lN (smp l x i))), none, some (.int (nI i))] [.long (lN (smp l x (i + 1)))] _ _
      refine ar_go M_R_sampleAt 1 _ 29 _ [some (.ref r), some (.long (lN x)), none, some (.long (lN (smp l x (i + 1)))), none, some (.int (nI i))] _ [] rfl ?_
      refine ar_go M_R_sampleAt 1 _ 32 _ [some (.ref r), some (.long (lN x)), none, some (.long (lN (smp l x (i + 1)))), none, some (.int (nI i + Int32.ofInt 1))] _ [] rfl ?_
      rw [show nI i + Int32.ofInt 1 = nI (i + 1) from nI_add i 1]
      refine ar_go M_R_sampleAt 1 _ 5 _ [some (.ref r), some (.long (lN x)), none, some (.long (lN (smp l x (i + 1)))), none, some (.int (nI (i + 1)))] _ [] rfl ?_
      exact ih (i + 1) (by omega) (by omega)
theorem c_R_sampleAt (X : am_X) (d : Nat) (h : am_H) {r x : Nat} {l : Bk} (hR : isR h r l) (hrs : r < 1000) (hW : bkW l) (hx : 1073741824 ≤ x) (hx2 : x < 2147483647) : ar Pg X (d + 1) n_R_sampleAt 0 [some (.ref r), some (.long (lN x)), none, none, none, none] [] h (fun rr h' => rr = some (.long (lN (smp l x l.length))) ∧ h' = h) := by
  have hR0 := hR
  obtain ⟨hlen, hr, f, g, m, hw, hg, hm, hfa⟩ := hR
  refine ar_go M_R_sampleAt 4 _ 5 _ [some (.ref r), some (.long (lN x)), none, some (.long (lN 1)), none, some (.int (nI 0))] _ [] rfl ?_
  exact c_R_smp_loop X d h hR0 hrs hW hx hx2 (l.length + 1) 0 (by omega) (by omega)
end
section
/-! Records: over two of them -/
def cntB (P : Nat → Bool) : Nat → Nat
  | 0 => 0
  | k + 1 => cntB P k + (if P k = true then 1 else 0)
theorem cntB_le (P : Nat → Bool) : ∀ k, cntB P k ≤ k
  | 0 => Nat.le_refl _
  | k + 1 => by
    have := cntB_le P k
    rw [cntB]
    split <;> omega
def shB (l o : Bk) (i : Nat) : Bool := decide (pos o (wd l i / 1024) < o.length) && decide (wd o (pos o (wd l i / 1024)) = wd l i)
theorem c_R_sh_loop (X : am_X) (d : Nat) (h : am_H) {r s : Nat} {l o : Bk} (hR : isR h r l) (hR2 : isR h s o) (hrs : r < 1000) (hss : s < 1000) (hS2 : bkS o) (hW : bkW l) (hW2 : bkW o) : ∀ (k i : Nat) (x4 : Option Value), l.length - i < k → i ≤ l.length → ar Pg X (d + 1) n_R_wordsSharedWith 4 [some (.ref r), some (.ref s), some (.int (nI (cntB (shB l o) i))), some (.int (nI i)), x4] [] h (fun rr h' => rr = some (.int (nI (cntB (shB l o) l.length))) ∧ h' = h) := by
  have hR20 := hR2
  obtain ⟨hlen, hr, f, g, m, hw, hg, hm, hfa⟩ := hR
  obtain ⟨hlen2, hr2, f2, g2, m2, hw2, hg2, hm2, hfa2⟩ := hR2
  intro k
  induction k with
  | zero => intro i x4 hk; omega
  | succ k ih =>
    intro i x4 hk hil
    have hcl := cntB_le (shB l o) i
    refine ar_go M_R_wordsSharedWith 2 _ 6 _ [some (.ref r), some (.ref s), some (.int (nI (cntB (shB l o) i))), some (.int (nI i)), x4] _ [.ref r, .int (nI i)] rfl ?_
    refine ar_get M_R_wordsSharedWith rfl rfl hr rfl ?_
    refine ar_icmp M_R_wordsSharedWith rfl rfl (fun hc => ?_) (fun hc => ?_)
    · have hc := c2_ge_t (a := i) (b := l.length) (by omega) (by omega) hc
      have hi2 : i = l.length := by omega
      refine ar_go M_R_wordsSharedWith 1 _ 63 _ [some (.ref r), some (.ref s), some (.int (nI (cntB (shB l o) i))), some (.int (nI i)), x4] _ [.int (nI (cntB (shB l o) i))] rfl ?_
      exact ar_R M_R_wordsSharedWith rfl rfl rfl rfl (⟨by rw [hi2], rfl⟩)
    · have hc := c2_ge_f (a := i) (b := l.length) (by omega) (by omega) hc
      have hwi := hW i (by omega)
      refine ar_go M_R_wordsSharedWith 2 _ 14 _ [some (.ref r), some (.ref s), some (.int (nI (cntB (shB l o) i))), some (.int (nI i)), x4] _ [.ref r, .ref s] rfl ?_
      refine ar_get M_R_wordsSharedWith rfl rfl hr rfl ?_
      refine ar_go M_R_wordsSharedWith 1 _ 18 _ [some (.ref r), some (.ref s), some (.int (nI (cntB (shB l o) i))), some (.int (nI i)), x4] _ [.int (nI i), .ref (r + 1), .ref s] rfl ?_
      refine ar_iald M_R_wordsSharedWith rfl (by unfold am_x0; omega) hw (vp_in_nI (by omega) (by decide)) ?_
      rw [nI_clamp (n := i) (by omega)]
      refine ar_top (w := .int (nI (wd l i))) (congrArg Value.int ((hfa i (by omega)).1)) ?_
      refine ar_go M_R_wordsSharedWith 1 _ 22 _ [some (.ref r), some (.ref s), some (.int (nI (cntB (shB l o) i))), some (.int (nI i)), x4] _ [.int (nI 1024), .int (nI (wd l i)), .ref s] rfl ?_
      refine ar_idiv M_R_wordsSharedWith rfl (by decide) ?_
      refine ar_top (w := .int (nI ((wd l i) / 1024))) (congrArg Value.int (pk_div (by omega) (by decide) (by decide))) ?_
      refine ar_CV M_R_wordsSharedWith rfl rfl (Or.inl rfl) rfl rfl (Nat.le_of_ble_eq_true rfl) hr2 M_R_placeOf (Nat.le_of_ble_eq_true rfl) (c_R_pos X d _ hR20 hss hS2 hW2 (by omega)) (fun r1 h1 hq => ?_)
      obtain ⟨rfl, rfl⟩ := hq
      refine ⟨rfl, ?_⟩
      show ar Pg _ _ _ 26 [some (.ref r), some (.ref s), some (.int (nI (cntB (shB l o) i))), some (.int (nI i)), x4] [.int (nI (pos o (wd l i / 1024)))] _ _
      have hpl := (pos_pl o (wd l i / 1024) hS2).1
      refine ar_go M_R_wordsSharedWith 3 _ 31 _ [some (.ref r), some (.ref s), some (.int (nI (cntB (shB l o) i))), some (.int (nI i)), some (.int (nI (pos o (wd l i / 1024))))] _ [.ref s, .int (nI (pos o (wd l i / 1024)))] rfl ?_
      refine ar_get M_R_wordsSharedWith rfl rfl hr2 rfl ?_
      refine ar_icmp M_R_wordsSharedWith rfl rfl (fun hc2 => ?_) (fun hc2 => ?_)
      · have hc2 := c2_ge_t (a := (pos o (wd l i / 1024))) (b := o.length) (by omega) (by omega) hc2
        refine ar_go M_R_wordsSharedWith 1 _ 59 _ [some (.ref r), some (.ref s), some (.int (nI (cntB (shB l o) i))), some (.int (nI i + Int32.ofInt 1)), some (.int (nI (pos o (wd l i / 1024))))] _ [] rfl ?_
        rw [show nI i + Int32.ofInt 1 = nI (i + 1) from nI_add i 1]
        refine ar_go M_R_wordsSharedWith 1 _ 4 _ [some (.ref r), some (.ref s), some (.int (nI (cntB (shB l o) i))), some (.int (nI (i + 1))), some (.int (nI (pos o (wd l i / 1024))))] _ [] rfl ?_
        have hnx : cntB (shB l o) (i + 1) = cntB (shB l o) i := by rw [cntB]; simp [shB, show ¬ pos o (wd l i / 1024) < o.length by omega]
        rw [← hnx]
        exact ih (i + 1) _ (by omega) (by omega)
      · have hc2 := c2_ge_f (a := (pos o (wd l i / 1024))) (b := o.length) (by omega) (by omega) hc2
        have hwp := hW2 (pos o (wd l i / 1024)) hc2
        refine ar_go M_R_wordsSharedWith 1 _ 38 _ [some (.ref r), some (.ref s), some (.int (nI (cntB (shB l o) i))), some (.int (nI i)), some (.int (nI (pos o (wd l i / 1024))))] _ [.ref s] rfl ?_
        refine ar_get M_R_wordsSharedWith rfl rfl hr2 rfl ?_
        refine ar_go M_R_wordsSharedWith 1 _ 43 _ [some (.ref r), some (.ref s), some (.int (nI (cntB (shB l o) i))), some (.int (nI i)), some (.int (nI (pos o (wd l i / 1024))))] _ [.int (nI (pos o (wd l i / 1024))), .ref (s + 1)] rfl ?_
        refine ar_iald M_R_wordsSharedWith rfl (by unfold am_x0; omega) hw2 (vp_in_nI (by omega) (by decide)) ?_
        rw [nI_clamp (n := (pos o (wd l i / 1024))) (by omega)]
        refine ar_top (w := .int (nI (wd o (pos o (wd l i / 1024))))) (congrArg Value.int ((hfa2 _ hc2).1)) ?_
        refine ar_go M_R_wordsSharedWith 1 _ 45 _ [some (.ref r), some (.ref s), some (.int (nI (cntB (shB l o) i))), some (.int (nI i)), some (.int (nI (pos o (wd l i / 1024))))] _ [.ref r, .int (nI (wd o (pos o (wd l i / 1024))))] rfl ?_
        refine ar_get M_R_wordsSharedWith rfl rfl hr rfl ?_
        refine ar_go M_R_wordsSharedWith 1 _ 49 _ [some (.ref r), some (.ref s), some (.int (nI (cntB (shB l o) i))), some (.int (nI i)), some (.int (nI (pos o (wd l i / 1024))))] _ [.int (nI i), .ref (r + 1), .int (nI (wd o (pos o (wd l i / 1024))))] rfl ?_
        refine ar_iald M_R_wordsSharedWith rfl (by unfold am_x0; omega) hw (vp_in_nI (by omega) (by decide)) ?_
        rw [nI_clamp (n := i) (by omega)]
        refine ar_top (w := .int (nI (wd l i))) (congrArg Value.int ((hfa i (by omega)).1)) ?_
        refine ar_icmp M_R_wordsSharedWith rfl rfl (fun hc3 => ?_) (fun hc3 => ?_)
        · have hc3 := c2_ne_t (a := (wd o (pos o (wd l i / 1024)))) (b := (wd l i)) (by omega) (by omega) hc3
          refine ar_go M_R_wordsSharedWith 1 _ 59 _ [some (.ref r), some (.ref s), some (.int (nI (cntB (shB l o) i))), some (.int (nI i + Int32.ofInt 1)), some (.int (nI (pos o (wd l i / 1024))))] _ [] rfl ?_
          rw [show nI i + Int32.ofInt 1 = nI (i + 1) from nI_add i 1]
          refine ar_go M_R_wordsSharedWith 1 _ 4 _ [some (.ref r), some (.ref s), some (.int (nI (cntB (shB l o) i))), some (.int (nI (i + 1))), some (.int (nI (pos o (wd l i / 1024))))] _ [] rfl ?_
          have hnx : cntB (shB l o) (i + 1) = cntB (shB l o) i := by rw [cntB]; simp [shB, hc3]
          rw [← hnx]
          exact ih (i + 1) _ (by omega) (by omega)
        · have hc3 := c2_ne_f (a := (wd o (pos o (wd l i / 1024)))) (b := (wd l i)) (by omega) (by omega) hc3
          refine ar_go M_R_wordsSharedWith 1 _ 56 _ [some (.ref r), some (.ref s), some (.int (nI (cntB (shB l o) i) + Int32.ofInt 1)), some (.int (nI i)), some (.int (nI (pos o (wd l i / 1024))))] _ [] rfl ?_
          rw [show nI (cntB (shB l o) i) + Int32.ofInt 1 = nI ((cntB (shB l o) i) + 1) from nI_add (cntB (shB l o) i) 1]
          refine ar_go M_R_wordsSharedWith 1 _ 59 _ [some (.ref r), some (.ref s), some (.int (nI ((cntB (shB l o) i) + 1))), some (.int (nI i + Int32.ofInt 1)), some (.int (nI (pos o (wd l i / 1024))))] _ [] rfl ?_
          rw [show nI i + Int32.ofInt 1 = nI (i + 1) from nI_add i 1]
          refine ar_go M_R_wordsSharedWith 1 _ 4 _ [some (.ref r), some (.ref s), some (.int (nI ((cntB (shB l o) i) + 1))), some (.int (nI (i + 1))), some (.int (nI (pos o (wd l i / 1024))))] _ [] rfl ?_
          have hnx : cntB (shB l o) (i + 1) = cntB (shB l o) i + 1 := by rw [cntB]; simp [shB, hc2, hc3]
          rw [← hnx]
          exact ih (i + 1) _ (by omega) (by omega)
theorem c_R_wordsSharedWith (X : am_X) (d : Nat) (h : am_H) {r s : Nat} {l o : Bk} (hR : isR h r l) (hR2 : isR h s o) (hrs : r < 1000) (hss : s < 1000) (hS2 : bkS o) (hW : bkW l) (hW2 : bkW o) : ar Pg X (d + 1) n_R_wordsSharedWith 0 [some (.ref r), some (.ref s), none, none, none] [] h (fun rr h' => rr = some (.int (nI (cntB (shB l o) l.length))) ∧ h' = h) := by
  refine ar_go M_R_wordsSharedWith 4 _ 4 _ [some (.ref r), some (.ref s), some (.int (nI 0)), some (.int (nI 0)), none] _ [] rfl ?_
  exact c_R_sh_loop X d h hR hR2 hrs hss hS2 hW hW2 (l.length + 1) 0 none (by omega) (by omega)
def nwB (l o : Bk) (i : Nat) : Bool := !hasAt l (pos l (wd o i / 1024)) (wd o i / 1024)
theorem c_R_cw_loop (X : am_X) (d : Nat) (h : am_H) {r s : Nat} {l o : Bk} (hR : isR h r l) (hR2 : isR h s o) (hrs : r < 1000) (hss : s < 1000) (hS : bkS l) (hW : bkW l) (hW2 : bkW o) : ∀ (k i : Nat) (x4 : Option Value), o.length - i < k → i ≤ o.length → ar Pg X (d + 1) n_R_countWith 7 [some (.ref r), some (.ref s), some (.int (nI (l.length + cntB (nwB l o) i))), some (.int (nI i)), x4] [] h (fun rr h' => rr = some (.int (nI (l.length + cntB (nwB l o) o.length))) ∧ h' = h) := by
  have hR0 := hR
  obtain ⟨hlen, hr, f, g, m, hw, hg, hm, hfa⟩ := hR
  obtain ⟨hlen2, hr2, f2, g2, m2, hw2, hg2, hm2, hfa2⟩ := hR2
  intro k
  induction k with
  | zero => intro i x4 hk; omega
  | succ k ih =>
    intro i x4 hk hil
    have hcl := cntB_le (nwB l o) i
    refine ar_go M_R_countWith 2 _ 9 _ [some (.ref r), some (.ref s), some (.int (nI (l.length + cntB (nwB l o) i))), some (.int (nI i)), x4] _ [.ref s, .int (nI i)] rfl ?_
    refine ar_get M_R_countWith rfl rfl hr2 rfl ?_
    refine ar_icmp M_R_countWith rfl rfl (fun hc => ?_) (fun hc => ?_)
    · have hc := c2_ge_t (a := i) (b := o.length) (by omega) (by omega) hc
      have hi2 : i = o.length := by omega
      refine ar_go M_R_countWith 1 _ 52 _ [some (.ref r), some (.ref s), some (.int (nI (l.length + cntB (nwB l o) i))), some (.int (nI i)), x4] _ [.int (nI (l.length + cntB (nwB l o) i))] rfl ?_
      exact ar_R M_R_countWith rfl rfl rfl rfl (⟨by rw [hi2], rfl⟩)
    · have hc := c2_ge_f (a := i) (b := o.length) (by omega) (by omega) hc
      have hwi := hW2 i (by omega)
      refine ar_go M_R_countWith 1 _ 16 _ [some (.ref r), some (.ref s), some (.int (nI (l.length + cntB (nwB l o) i))), some (.int (nI i)), x4] _ [.ref s] rfl ?_
      refine ar_get M_R_countWith rfl rfl hr2 rfl ?_
      refine ar_go M_R_countWith 1 _ 20 _ [some (.ref r), some (.ref s), some (.int (nI (l.length + cntB (nwB l o) i))), some (.int (nI i)), x4] _ [.int (nI i), .ref (s + 1)] rfl ?_
      refine ar_iald M_R_countWith rfl (by unfold am_x0; omega) hw2 (vp_in_nI (by omega) (by decide)) ?_
      rw [nI_clamp (n := i) (by omega)]
      refine ar_top (w := .int (nI (wd o i))) (congrArg Value.int ((hfa2 i (by omega)).1)) ?_
      refine ar_go M_R_countWith 1 _ 24 _ [some (.ref r), some (.ref s), some (.int (nI (l.length + cntB (nwB l o) i))), some (.int (nI i)), x4] _ [.int (nI 1024), .int (nI (wd o i))] rfl ?_
      refine ar_idiv M_R_countWith rfl (by decide) ?_
      refine ar_top (w := .int (nI ((wd o i) / 1024))) (congrArg Value.int (pk_div (by omega) (by decide) (by decide))) ?_
      refine ar_go M_R_countWith 4 _ 31 _ [some (.ref r), some (.ref s), some (.int (nI (l.length + cntB (nwB l o) i))), some (.int (nI i)), some (.int (nI ((wd o i) / 1024)))] _ [.int (nI ((wd o i) / 1024)), .ref r, .ref r] rfl ?_
      refine ar_CV M_R_countWith rfl rfl (Or.inl rfl) rfl rfl (Nat.le_of_ble_eq_true rfl) hr M_R_placeOf (Nat.le_of_ble_eq_true rfl) (c_R_pos X d _ hR0 hrs hS hW (by omega)) (fun r1 h1 hq => ?_)
      obtain ⟨rfl, rfl⟩ := hq
      refine ⟨rfl, ?_⟩
      show ar Pg _ _ _ 34 [some (.ref r), some (.ref s), some (.int (nI (l.length + cntB (nwB l o) i))), some (.int (nI i)), some (.int (nI ((wd o i) / 1024)))] [.int (nI (pos l (wd o i / 1024))), .ref r] _ _
      have hpl := (pos_pl l (wd o i / 1024) hS).1
      refine ar_go M_R_countWith 1 _ 36 _ [some (.ref r), some (.ref s), some (.int (nI (l.length + cntB (nwB l o) i))), some (.int (nI i)), some (.int (nI ((wd o i) / 1024)))] _ [.int (nI ((wd o i) / 1024)), .int (nI (pos l (wd o i / 1024))), .ref r] rfl ?_
      refine ar_CV M_R_countWith rfl rfl (Or.inl rfl) rfl rfl (Nat.le_of_ble_eq_true rfl) hr M_R_holdsAt (Nat.le_of_ble_eq_true rfl) (c_R_holdsAt X d _ hR0 hrs hW (by omega) (by omega)) (fun r1 h1 hq => ?_)
      obtain ⟨rfl, rfl⟩ := hq
      refine ⟨rfl, ?_⟩
      show ar Pg _ _ _ 39 [some (.ref r), some (.ref s), some (.int (nI (l.length + cntB (nwB l o) i))), some (.int (nI i)), some (.int (nI ((wd o i) / 1024)))] [.int (bi (hasAt l (pos l (wd o i / 1024)) (wd o i / 1024)))] _ _
      refine ar_if M_R_countWith rfl rfl (fun hc2 => ?_) (fun hc2 => ?_)
      · have hc2 := bi_ne_t hc2
        refine ar_go M_R_countWith 1 _ 48 _ [some (.ref r), some (.ref s), some (.int (nI (l.length + cntB (nwB l o) i))), some (.int (nI i + Int32.ofInt 1)), some (.int (nI ((wd o i) / 1024)))] _ [] rfl ?_
        rw [show nI i + Int32.ofInt 1 = nI (i + 1) from nI_add i 1]
        refine ar_go M_R_countWith 1 _ 7 _ [some (.ref r), some (.ref s), some (.int (nI (l.length + cntB (nwB l o) i))), some (.int (nI (i + 1))), some (.int (nI ((wd o i) / 1024)))] _ [] rfl ?_
        have hnx : cntB (nwB l o) (i + 1) = cntB (nwB l o) i := by rw [cntB]; simp [nwB, hc2]
        rw [← hnx]
        exact ih (i + 1) _ (by omega) (by omega)
      · have hc2 := bi_ne_f hc2
        refine ar_go M_R_countWith 1 _ 45 _ [some (.ref r), some (.ref s), some (.int (nI (l.length + cntB (nwB l o) i) + Int32.ofInt 1)), some (.int (nI i)), some (.int (nI ((wd o i) / 1024)))] _ [] rfl ?_
        rw [show nI (l.length + cntB (nwB l o) i) + Int32.ofInt 1 = nI ((l.length + cntB (nwB l o) i) + 1) from nI_add (l.length + cntB (nwB l o) i) 1]
        refine ar_go M_R_countWith 1 _ 48 _ [some (.ref r), some (.ref s), some (.int (nI ((l.length + cntB (nwB l o) i) + 1))), some (.int (nI i + Int32.ofInt 1)), some (.int (nI ((wd o i) / 1024)))] _ [] rfl ?_
        rw [show nI i + Int32.ofInt 1 = nI (i + 1) from nI_add i 1]
        refine ar_go M_R_countWith 1 _ 7 _ [some (.ref r), some (.ref s), some (.int (nI ((l.length + cntB (nwB l o) i) + 1))), some (.int (nI (i + 1))), some (.int (nI ((wd o i) / 1024)))] _ [] rfl ?_
        have hnx : l.length + cntB (nwB l o) i + 1 = l.length + cntB (nwB l o) (i + 1) := by rw [cntB]; simp [nwB, hc2, Nat.add_assoc]
        rw [hnx]
        exact ih (i + 1) _ (by omega) (by omega)
theorem c_R_countWith (X : am_X) (d : Nat) (h : am_H) {r s : Nat} {l o : Bk} (hR : isR h r l) (hR2 : isR h s o) (hrs : r < 1000) (hss : s < 1000) (hS : bkS l) (hW : bkW l) (hW2 : bkW o) : ar Pg X (d + 1) n_R_countWith 0 [some (.ref r), some (.ref s), none, none, none] [] h (fun rr h' => rr = some (.int (nI (l.length + cntB (nwB l o) o.length))) ∧ h' = h) := by
  have hR0 := hR
  have hR20 := hR2
  obtain ⟨hlen, hr, f, g, m, hw, hg, hm, hfa⟩ := hR
  obtain ⟨hlen2, hr2, f2, g2, m2, hw2, hg2, hm2, hfa2⟩ := hR2
  refine ar_go M_R_countWith 1 _ 1 _ [some (.ref r), some (.ref s), none, none, none] _ [.ref r] rfl ?_
  refine ar_get M_R_countWith rfl rfl hr rfl ?_
  refine ar_go M_R_countWith 3 _ 7 _ [some (.ref r), some (.ref s), some (.int (nI l.length)), some (.int (nI 0)), none] _ [] rfl ?_
  exact c_R_cw_loop X d h hR0 hR20 hrs hss hS hW hW2 (o.length + 1) 0 none (by omega) (by omega)
def en (l : Bk) (i : Nat) : Nat × Int32 × Bool := (wd l i, gd l i, dd l i)
def stA (l o : Bk) : Nat → Bk
  | 0 => l
  | i + 1 => stR (stA l o i) (en o i)
theorem stA_ok {l o : Bk} (hl : l.length ≤ 64) (hS : bkS l) (hW : bkW l) (hW2 : bkW o) : ∀ i, i ≤ o.length → (stA l o i).length ≤ 64 ∧ bkS (stA l o i) ∧ bkW (stA l o i)
  | 0, _ => ⟨hl, hS, hW⟩
  | i + 1, h => by
    obtain ⟨a, b, c⟩ := stA_ok hl hS hW hW2 i (by omega)
    exact ⟨stR_len a b _, stR_S b _, stR_W b c (hW2 i (by omega))⟩
theorem c_R_sa_loop (X : am_X) (d : Nat) (h : am_H) {r s : Nat} {l o : Bk} (hR2 : isR h s o) (hrs : r < 1000) (hss : s < 1000) (hap : s + 4 ≤ r ∨ r + 4 ≤ s) (hl0 : l.length ≤ 64) (hS : bkS l) (hW : bkW l) (hW2 : bkW o) : ∀ (k i : Nat) (h1 : am_H), o.length - i < k → i ≤ o.length → isR h1 r (stA l o i) → fr [r, r + 1, r + 2, r + 3] h h1 → ar Pg X (d + 1 + 1) n_R_storeAll 2 [some (.ref r), some (.ref s), some (.int (nI i))] [] h1 (fun rr h' => rr = none ∧ fr [r, r + 1, r + 2, r + 3] h h' ∧ isR h' r (stA l o o.length)) := by
  intro k
  induction k with
  | zero => intro i h1 hk; omega
  | succ k ih =>
    intro i h1 hk hil hR hF
    have hR21 : isR h1 s o := hR2.fr hF (by simp; omega) (by simp; omega) (by simp; omega) (by simp; omega)
    obtain ⟨hlen2, hr2, f2, g2, m2, hw2, hg2, hm2, hfa2⟩ := hR21
    refine ar_go M_R_storeAll 2 _ 4 _ [some (.ref r), some (.ref s), some (.int (nI i))] _ [.ref s, .int (nI i)] rfl ?_
    refine ar_get M_R_storeAll rfl rfl hr2 rfl ?_
    refine ar_icmp M_R_storeAll rfl rfl (fun hc => ?_) (fun hc => ?_)
    · have hc := c2_ge_t (a := i) (b := o.length) (by omega) (by omega) hc
      have hi2 : i = o.length := by omega
      exact ar_R M_R_storeAll rfl rfl rfl rfl (⟨rfl, hF, by rw [← hi2]; exact hR⟩)
    · have hc := c2_ge_f (a := i) (b := o.length) (by omega) (by omega) hc
      have hwi := hW2 i (by omega)
      obtain ⟨z1, z2, z3⟩ := stA_ok hl0 hS hW hW2 i hil
      refine ar_go M_R_storeAll 2 _ 12 _ [some (.ref r), some (.ref s), some (.int (nI i))] _ [.ref s, .ref r] rfl ?_
      refine ar_get M_R_storeAll rfl rfl hr2 rfl ?_
      refine ar_go M_R_storeAll 1 _ 16 _ [some (.ref r), some (.ref s), some (.int (nI i))] _ [.int (nI i), .ref (s + 1), .ref r] rfl ?_
      refine ar_iald M_R_storeAll rfl (by unfold am_x0; omega) hw2 (vp_in_nI (by omega) (by decide)) ?_
      rw [nI_clamp (n := i) (by omega)]
      refine ar_top (w := .int (nI (wd o i))) (congrArg Value.int ((hfa2 i (by omega)).1)) ?_
      refine ar_go M_R_storeAll 1 _ 18 _ [some (.ref r), some (.ref s), some (.int (nI i))] _ [.ref s, .int (nI (wd o i)), .ref r] rfl ?_
      refine ar_get M_R_storeAll rfl rfl hr2 rfl ?_
      refine ar_go M_R_storeAll 1 _ 22 _ [some (.ref r), some (.ref s), some (.int (nI i))] _ [.int (nI i), .ref (s + 2), .int (nI (wd o i)), .ref r] rfl ?_
      refine ar_iald M_R_storeAll rfl (by unfold am_x0; omega) hg2 (vp_in_nI (by omega) (by decide)) ?_
      rw [nI_clamp (n := i) (by omega)]
      refine ar_top (w := .int (gd o i)) (congrArg Value.int ((hfa2 i (by omega)).2.1)) ?_
      refine ar_go M_R_storeAll 1 _ 24 _ [some (.ref r), some (.ref s), some (.int (nI i))] _ [.ref s, .int (gd o i), .int (nI (wd o i)), .ref r] rfl ?_
      refine ar_get M_R_storeAll rfl rfl hr2 rfl ?_
      refine ar_go M_R_storeAll 1 _ 28 _ [some (.ref r), some (.ref s), some (.int (nI i))] _ [.int (nI i), .ref (s + 3), .int (gd o i), .int (nI (wd o i)), .ref r] rfl ?_
      refine ar_zald M_R_storeAll rfl hm2 (vp_in_nI (by omega) (by decide)) ?_
      rw [nI_clamp (n := i) (by omega)]
      refine ar_top (w := .int (bi (dd o i))) (congrArg Value.int ((hfa2 i (by omega)).2.2)) ?_
      refine ar_CV M_R_storeAll rfl rfl (Or.inl rfl) rfl rfl (Nat.le_of_ble_eq_true rfl) hR.2.1 M_R_store (Nat.le_of_ble_eq_true rfl) (c_R_store X d _ hR hrs z2 z3 hwi) (fun r1 h3 hq => ?_)
      obtain ⟨rfl, hf, hR3⟩ := hq
      refine ⟨hf.1, ?_⟩
      show ar Pg _ _ _ 32 [some (.ref r), some (.ref s), some (.int (nI i))] [] _ _
      refine ar_go M_R_storeAll 1 _ 35 _ [some (.ref r), some (.ref s), some (.int (nI i + Int32.ofInt 1))] _ [] rfl ?_
      rw [show nI i + Int32.ofInt 1 = nI (i + 1) from nI_add i 1]
      refine ar_go M_R_storeAll 1 _ 2 _ [some (.ref r), some (.ref s), some (.int (nI (i + 1)))] _ [] rfl ?_
      exact ih (i + 1) h3 (by omega) (by omega) hR3 (hF.tr hf (by simp) (by simp))
theorem c_R_storeAll (X : am_X) (d : Nat) (h : am_H) {r s : Nat} {l o : Bk} (hR : isR h r l) (hR2 : isR h s o) (hrs : r < 1000) (hss : s < 1000) (hap : s + 4 ≤ r ∨ r + 4 ≤ s) (hS : bkS l) (hW : bkW l) (hW2 : bkW o) : ar Pg X (d + 1 + 1) n_R_storeAll 0 [some (.ref r), some (.ref s), none] [] h (fun rr h' => rr = none ∧ fr [r, r + 1, r + 2, r + 3] h h' ∧ isR h' r (stA l o o.length)) := by
  refine ar_go M_R_storeAll 2 _ 2 _ [some (.ref r), some (.ref s), some (.int (nI 0))] _ [] rfl ?_
  exact c_R_sa_loop X d h hR2 hrs hss hap hR.1 hS hW hW2 (o.length + 1) 0 h (by omega) (by omega) hR (fr.rf _ _)
end
section
/-! Polynomials in their cells: k factors, the array as a function to the natural numbers -/
def updN (A : Nat → Nat) (j v : Nat) : Nat → Nat := fun i => if i = j then v else A i
theorem updN_s (A : Nat → Nat) (j v : Nat) : updN A j v j = v := by simp [updN]
theorem updN_n (A : Nat → Nat) {i j : Nat} (v : Nat) (h : i ≠ j) : updN A j v i = A i := by simp [updN, h]
theorem updL_lN (A : Nat → Nat) (j v : Nat) : vp_updL (fun i => lN (A i)) j (lN v) = fun i => lN (updN A j v i) := by
  funext i
  unfold vp_updL updN
  split <;> rfl
/-- the number k - 1 -/
def dI (k : Nat) : Int32 := match k with
  | 0 => -1
  | k + 1 => nI k
theorem dI_pred (k : Nat) : nI k + Int32.ofInt (-1) = dI k := by
  cases k with
  | zero => decide
  | succ k => exact pk_m1 k
def isLA (h : am_H) (y n : Nat) (A : Nat → Nat) : Prop := h[y]? = some (.inl (1, n, .inr (.inl (fun i => lN (A i)))))
def isYO (h : am_H) (y k : Nat) : Prop := h[y]? = some (.inr (2, [.ref (y + 1), .int (dI k)]))
def lt17 (A : Nat → Nat) : Prop := ∀ i, i < 17 → A i < 2147483647
/-- a Polynomial at y: k factors, in the array A -/
def isP (h : am_H) (y k : Nat) (A : Nat → Nat) : Prop := k ≤ 17 ∧ isYO h y k ∧ isLA h (y + 1) 17 A ∧ lt17 A
theorem isP.fr {h h1 : am_H} {y k : Nat} {A : Nat → Nat} {s : List Nat} (hP : isP h y k A) (hf : fr s h h1) (h0 : y ∉ s) (h1' : y + 1 ∉ s) : isP h1 y k A := ⟨hP.1, hf.at hP.2.1 h0, hf.at hP.2.2.1 h1', hP.2.2.2⟩
/-- Horner over n factors from j on -/
def hvS (A : Nat → Nat) (x : Nat) : Nat → Nat → Nat
  | 0, _ => 0
  | n + 1, j => (hvS A x n (j + 1) * x % 2147483647 + A j) % 2147483647
theorem hvS_lt (A : Nat → Nat) (x : Nat) : ∀ n j, hvS A x n j < 2147483647
  | 0, j => by show 0 < 2147483647; decide
  | n + 1, j => Nat.mod_lt _ (by decide)
theorem c_Y_va_loop (X : am_X) (d : Nat) (h : am_H) {y k x : Nat} {A : Nat → Nat} (hP : isP h y k A) (hys : y < 1000) (hx : x < 2147483648) : ∀ (j : Nat), j ≤ k → ar Pg X (d + 1) n_Y_valueAt 8 [some (.ref y), some (.long (lN x)), none, some (.long (lN (hvS A x (k - j) j))), none, some (.int (dI j))] [] h (fun rr h' => rr = some (.long (lN (hvS A x k 0))) ∧ h' = h) := by
  obtain ⟨hk17, hy, ha, hl17⟩ := hP
  unfold isYO at hy
  unfold isLA at ha
  intro j
  induction j with
  | zero =>
    intro hj
    refine ar_go M_Y_valueAt 1 _ 10 _ [some (.ref y), some (.long (lN x)), none, some (.long (lN (hvS A x (k - 0) 0))), none, some (.int (dI 0))] _ [.int (-1)] rfl ?_
    refine ar_if M_Y_valueAt rfl rfl (fun _ => ?_) (fun z => absurd z (by decide))
    refine ar_go M_Y_valueAt 1 _ 36 _ [some (.ref y), some (.long (lN x)), none, some (.long (lN (hvS A x (k - 0) 0))), none, some (.int (dI 0))] _ [.long (lN (hvS A x (k - 0) 0))] rfl ?_
    exact ar_R M_Y_valueAt rfl rfl rfl rfl ⟨rfl, rfl⟩
  | succ j ih =>
    intro hj
    refine ar_go M_Y_valueAt 1 _ 10 _ [some (.ref y), some (.long (lN x)), none, some (.long (lN (hvS A x (k - (j + 1)) (j + 1)))), none, some (.int (nI j))] _ [.int (nI j)] rfl ?_
    refine ar_if M_Y_valueAt rfl rfl (fun hc => absurd (of_decide_eq_true hc) (nI_pos (by omega))) (fun _ => ?_)
    refine ar_go M_Y_valueAt 2 _ 15 _ [some (.ref y), some (.long (lN x)), none, some (.long (lN (hvS A x (k - (j + 1)) (j + 1)))), none, some (.int (nI j))] _ [.long (lN x), .long (lN (hvS A x (k - (j + 1)) (j + 1)))] rfl ?_
    refine ar_CS M_Y_valueAt rfl rfl (Nat.le_of_ble_eq_true rfl) rfl rfl (Nat.le_of_ble_eq_true rfl) M_F_times (Nat.le_of_ble_eq_true rfl) (c_F_times X d _ (Nat.lt_trans (hvS_lt A x _ _) (by decide)) hx) (fun r1 h1 hq => ?_)
    obtain ⟨rfl, rfl⟩ := hq
    refine ⟨rfl, ?_⟩
    show ar Pg _ _ _ 18 [some (.ref y), some (.long (lN x)), none, some (.long (lN (hvS A x (k - (j + 1)) (j + 1)))), none, some (.int (nI j))] [.long (lN (hvS A x (k - (j + 1)) (j + 1) * x % 2147483647))] _ _
    have haj := hl17 j (by omega)
    refine ar_go M_Y_valueAt 1 _ 19 _ [some (.ref y), some (.long (lN x)), none, some (.long (lN (hvS A x (k - (j + 1)) (j + 1)))), none, some (.int (nI j))] _ [.ref y, .long (lN (hvS A x (k - (j + 1)) (j + 1) * x % 2147483647))] rfl ?_
    refine ar_get M_Y_valueAt rfl rfl hy rfl ?_
    refine ar_go M_Y_valueAt 1 _ 24 _ [some (.ref y), some (.long (lN x)), none, some (.long (lN (hvS A x (k - (j + 1)) (j + 1)))), none, some (.int (nI j))] _ [.int (nI j), .ref (y + 1), .long (lN (hvS A x (k - (j + 1)) (j + 1) * x % 2147483647))] rfl ?_
    refine ar_lald M_Y_valueAt rfl ha (vp_in_nI (by omega) (by decide)) ?_
    rw [nI_clamp (n := j) (by omega)]
    refine ar_CS M_Y_valueAt rfl rfl (Nat.le_of_ble_eq_true rfl) rfl rfl (Nat.le_of_ble_eq_true rfl) M_F_plus (Nat.le_of_ble_eq_true rfl) (c_F_plus X d _ (Nat.lt_trans (Nat.mod_lt _ (by decide)) (by decide)) (by omega)) (fun r1 h1 hq => ?_)
    obtain ⟨rfl, rfl⟩ := hq
    refine ⟨rfl, ?_⟩
    rw [show (hvS A x (k - (j + 1)) (j + 1) * x % 2147483647 + A j) % 2147483647 = hvS A x (k - j) j by rw [show k - j = k - (j + 1) + 1 by omega]; rfl]
    show ar Pg _ _ _ 28 [some (.ref y), some (.long (lN x)), none, some (.long (lN (hvS A x (k - (j + 1)) (j + 1)))), none, some (.int (nI j))] [.long (lN (hvS A x (k - j) j))] _ _
    refine ar_go M_Y_valueAt 1 _ 29 _ [some (.ref y), some (.long (lN x)), none, some (.long (lN (hvS A x (k - j) j))), none, some (.int (nI j))] _ [] rfl ?_
    refine ar_go M_Y_valueAt 1 _ 32 _ [some (.ref y), some (.long (lN x)), none, some (.long (lN (hvS A x (k - j) j))), none, some (.int (nI j + Int32.ofInt (-1)))] _ [] rfl ?_
    rw [show nI j + Int32.ofInt (-1) = dI j from dI_pred j]
    refine ar_go M_Y_valueAt 1 _ 8 _ [some (.ref y), some (.long (lN x)), none, some (.long (lN (hvS A x (k - j) j))), none, some (.int (dI j))] _ [] rfl ?_
    exact ih (by omega)
theorem c_Y_valueAt (X : am_X) (d : Nat) (h : am_H) {y k x : Nat} {A : Nat → Nat} (hP : isP h y k A) (hys : y < 1000) (hx : x < 2147483648) : ar Pg X (d + 1) n_Y_valueAt 0 [some (.ref y), some (.long (lN x)), none, none, none, none] [] h (fun rr h' => rr = some (.long (lN (hvS A x k 0))) ∧ h' = h) := by
  have hP0 := hP
  obtain ⟨hk17, hy, ha, hl17⟩ := hP
  unfold isYO at hy
  unfold isLA at ha
  refine ar_go M_Y_valueAt 3 _ 3 _ [some (.ref y), some (.long (lN x)), none, some (.long (lN 0)), none, none] _ [.ref y] rfl ?_
  refine ar_get M_Y_valueAt rfl rfl hy rfl ?_
  refine ar_go M_Y_valueAt 1 _ 8 _ [some (.ref y), some (.long (lN x)), none, some (.long (lN 0)), none, some (.int (dI k))] _ [] rfl ?_
  have := c_Y_va_loop X d h hP0 hys hx k (Nat.le_refl _)
  rw [Nat.sub_self] at this
  exact this
theorem c_Y_become (X : am_X) (d : Nat) (h : am_H) {y z k k2 : Nat} {A A2 : Nat → Nat} (hP : isP h y k A) (hP2 : isP h z k2 A2) (hys : y < 1000) (hzs : z < 1000) (hap : z + 2 ≤ y ∨ y + 2 ≤ z) : ar Pg X (d + 1) n_Y_become 0 [some (.ref y), some (.ref z)] [] h (fun rr h' => rr = none ∧ fr [y, y + 1] h h' ∧ isP h' y k2 (va_cpy A2 A 0 0 17) ∧ ∀ i, i < 17 → va_cpy A2 A 0 0 17 i = A2 i) := by
  obtain ⟨hk17, hy, ha, hl17⟩ := hP
  obtain ⟨hk2, hy2, ha2, hl2⟩ := hP2
  unfold isYO at hy hy2
  unfold isLA at ha ha2
  refine ar_go M_Y_become 1 _ 1 _ [some (.ref y), some (.ref z)] _ [.ref z] rfl ?_
  refine ar_get M_Y_become rfl rfl hy2 rfl ?_
  refine ar_go M_Y_become 2 _ 6 _ [some (.ref y), some (.ref z)] _ [.ref y, .int (nI 0), .ref (z + 1)] rfl ?_
  refine ar_get M_Y_become rfl rfl hy rfl ?_
  refine ar_go M_Y_become 2 _ 11 _ [some (.ref y), some (.ref z)] _ [.ref y, .int (nI 0), .ref (y + 1), .int (nI 0), .ref (z + 1)] rfl ?_
  refine ar_get M_Y_become rfl rfl hy rfl ?_
  refine ar_alen M_Y_become rfl (by unfold am_x0; omega) ha (by decide) ?_
  refine ar_cpyl M_Y_become rfl rfl (Nat.succ_pos _) (Nat.le_of_ble_eq_true rfl) ha2 ha (by decide) (by decide) (by decide) (by decide) (by decide) (fun h2 hf he => ?_)
  have hy := hf.at hy (by simp)
  have hy2 := hf.at hy2 (by simp; omega)
  have k1 := hf
  have hcp : isLA h2 (y + 1) 17 (va_cpy A2 A 0 0 17) := by
    unfold isLA
    have e0 : va_cpy (fun i => lN (A2 i)) (fun i => lN (A i)) (nI 0).toNatClampNeg (nI 0).toNatClampNeg (nI 17).toNatClampNeg = fun i => lN (va_cpy A2 A 0 0 17 i) := by
      rw [nI_clamp (n := 0) (by decide), nI_clamp (n := 17) (by decide)]
      funext i
      unfold va_cpy
      split <;> rfl
    rw [he, e0]
  refine ar_go M_Y_become 2 _ 20 _ [some (.ref y), some (.ref z)] _ [.ref z, .ref y] rfl ?_
  refine ar_get M_Y_become rfl rfl hy2 rfl ?_
  refine ar_put M_Y_become rfl rfl hy (Nat.le_of_ble_eq_true rfl) rfl (Nat.le_of_ble_eq_true rfl) (fun h3 hf he => ?_)
  have hy2 := hf.at hy2 (by simp only [List.mem_cons, List.not_mem_nil, or_false]; omega)
  have hy : h3[y]? = some (.inr (2, [.ref (y + 1), .int (dI k2)])) := he
  exact ar_R M_Y_become rfl rfl rfl rfl (⟨rfl, k1.tr hf (by simp) (by simp), ⟨hk2, hy, hf.at hcp (by simp), fun i hi => by rw [pk_cpy_in (Nat.zero_le _) (by omega)]; exact hl2 _ (by omega)⟩, fun i hi => by rw [pk_cpy_in (Nat.zero_le _) (by omega)]; congr 1; omega⟩)
end
section
/-! Polynomial: scaling, division -/
theorem lt17.up {A : Nat → Nat} (h : lt17 A) (j : Nat) {v : Nat} (hv : v < 2147483647) : lt17 (updN A j v) := by
  intro i hi
  unfold updN
  split
  · exact hv
  · exact h i hi
def ml (A : Nat → Nat) (s : Nat) : Nat → Nat → Nat
  | 0 => A
  | i + 1 => updN (ml A s i) i (ml A s i i * s % 2147483647)
theorem ml_17 {A : Nat → Nat} (h : lt17 A) (s : Nat) : ∀ i, lt17 (ml A s i)
  | 0 => h
  | i + 1 => (ml_17 h s i).up i (Nat.mod_lt _ (by decide))
def di1 (A : Nat → Nat) (mu s : Nat) (B : Nat → Nat) : Nat → Nat → Nat
  | 0 => A
  | i + 1 => updN (di1 A mu s B i) (s + i) ((di1 A mu s B i (s + i) + 2147483647 - mu * B i % 2147483647) % 2147483647)
theorem di1_17 {A : Nat → Nat} (h : lt17 A) (mu s : Nat) (B : Nat → Nat) : ∀ i, lt17 (di1 A mu s B i)
  | 0 => h
  | i + 1 => (di1_17 h mu s B i).up _ (Nat.mod_lt _ (by decide))
/-- division by a divisor of degree q, n shifts, in place -/
def dv (B : Nat → Nat) (q : Nat) : Nat → (Nat → Nat) → Nat → Nat
  | 0, A => A
  | n + 1, A => dv B q n (di1 A (A (n + q)) n B q)
theorem dv_17 {B : Nat → Nat} {q : Nat} : ∀ (n : Nat) {A : Nat → Nat}, lt17 A → lt17 (dv B q n A)
  | 0, _, h => h
  | n + 1, _, h => dv_17 n (di1_17 h _ _ _ _)
def shd (A : Nat → Nat) (q : Nat) : Nat → Nat → Nat
  | 0 => A
  | i + 1 => updN (shd A q i) i (shd A q i (i + q))
theorem shd_17 {A : Nat → Nat} (h : lt17 A) (q : Nat) : ∀ i, i + q ≤ 17 → lt17 (shd A q i)
  | 0, _ => h
  | i + 1, hi => (shd_17 h q i (by omega)).up _ (shd_17 h q i (by omega) _ (by omega))
def trm (A : Nat → Nat) : Nat → Nat
  | 0 => 0
  | k + 1 => if A k = 0 then trm A k else k + 1
theorem trm_le (A : Nat → Nat) : ∀ k, trm A k ≤ k
  | 0 => Nat.le_refl _
  | k + 1 => by
    have := trm_le A k
    rw [trm]
    split <;> omega
theorem dI_sub {k q : Nat} (h : q ≤ k) : dI (k + 1) - nI q = nI (k - q) := pk_sub h
theorem dI_neg : ∀ k, k < 18 → ∀ q, q < 18 → k ≤ q → am_c2 .lt (dI k - nI q) 0 = true := by decide +kernel
theorem dI_min : ∀ k, k < 18 → ∀ q, q < 18 → (if dI q < dI k then dI q else dI k) = dI (min k q) := by decide +kernel
theorem dI_1 (q : Nat) : nI q - nI 1 = dI q := by
  cases q with
  | zero => decide
  | succ q => exact nI_pred q
theorem lcmp0 {v : Nat} (h : v < 2147483647) : lg_cmp (lN v) (lN 0) = if v = 0 then 0 else 1 := by
  unfold lg_cmp
  by_cases h0 : v = 0
  · subst h0; decide
  · have h1 : lN 0 < lN v := (lN_lt (by decide) (by omega)).mpr (by omega)
    rw [if_pos h1, if_neg h0]
theorem c_Y_mh_loop (X : am_X) (d : Nat) (h : am_H) {y k s : Nat} {A : Nat → Nat} (hys : y < 1000) (hk : k + 1 ≤ 17) (hA : lt17 A) (hs : s < 2147483648) : ∀ (n i : Nat) (h1 : am_H), k + 1 - i < n → i ≤ k + 1 → isYO h1 y (k + 1) → isLA h1 (y + 1) 17 (ml A s i) → fr [y + 1] h h1 → ar Pg X (d + 1) n_Y_makeHighestOne 23 [some (.ref y), some (.long (lN s)), none, some (.int (nI i))] [] h1 (fun rr h' => rr = none ∧ fr [y + 1] h h' ∧ isP h' y (k + 1) (ml A s (k + 1))) := by
  intro n
  induction n with
  | zero => intro i h1 hn; omega
  | succ n ih =>
    intro i h1 hn hik hy ha hF
    unfold isYO at hy
    unfold isLA at ha
    have hy : h1[y]? = some (.inr (2, [.ref (y + 1), .int (nI k)])) := hy
    refine ar_go M_Y_makeHighestOne 2 _ 25 _ [some (.ref y), some (.long (lN s)), none, some (.int (nI i))] _ [.ref y, .int (nI i)] rfl ?_
    refine ar_get M_Y_makeHighestOne rfl rfl hy rfl ?_
    refine ar_icmp M_Y_makeHighestOne rfl rfl (fun hc => ?_) (fun hc => ?_)
    · have hc := c2_gt_t (a := i) (b := k) (by omega) (by omega) hc
      have hi2 : i = k + 1 := by omega
      rw [hi2] at ha
      exact ar_R M_Y_makeHighestOne rfl rfl rfl rfl (⟨rfl, hF, hk, hy, ha, ml_17 hA s _⟩)
    · have hc := c2_gt_f (a := i) (b := k) (by omega) (by omega) hc
      have hai := ml_17 hA s i i (by omega)
      refine ar_go M_Y_makeHighestOne 1 _ 32 _ [some (.ref y), some (.long (lN s)), none, some (.int (nI i))] _ [.ref y] rfl ?_
      refine ar_get M_Y_makeHighestOne rfl rfl hy rfl ?_
      refine ar_go M_Y_makeHighestOne 2 _ 37 _ [some (.ref y), some (.long (lN s)), none, some (.int (nI i))] _ [.ref y, .int (nI i), .ref (y + 1)] rfl ?_
      refine ar_get M_Y_makeHighestOne rfl rfl hy rfl ?_
      refine ar_go M_Y_makeHighestOne 1 _ 41 _ [some (.ref y), some (.long (lN s)), none, some (.int (nI i))] _ [.int (nI i), .ref (y + 1), .int (nI i), .ref (y + 1)] rfl ?_
      refine ar_lald M_Y_makeHighestOne rfl ha (vp_in_nI (by omega) (by decide)) ?_
      rw [nI_clamp (n := i) (by omega)]
      refine ar_go M_Y_makeHighestOne 1 _ 43 _ [some (.ref y), some (.long (lN s)), none, some (.int (nI i))] _ [.long (lN s), .long (lN ((ml A s i) i)), .int (nI i), .ref (y + 1)] rfl ?_
      refine ar_CS M_Y_makeHighestOne rfl rfl (Nat.le_of_ble_eq_true rfl) rfl rfl (Nat.le_of_ble_eq_true rfl) M_F_times (Nat.le_of_ble_eq_true rfl) (c_F_times X d _ (by omega) hs) (fun r1 h1 hq => ?_)
      obtain ⟨rfl, rfl⟩ := hq
      refine ⟨rfl, ?_⟩
      show ar Pg _ _ _ 46 [some (.ref y), some (.long (lN s)), none, some (.int (nI i))] [.long (lN (ml A s i i * s % 2147483647)), .int (nI i), .ref (y + 1)] _ _
      refine ar_last M_Y_makeHighestOne rfl ha (vp_in_nI (by omega) (by decide)) (fun h2 hf he => ?_)
      rw [nI_clamp (n := i) (by omega)] at he
      rw [updL_lN] at he
      have hy := hf.at hy (by simp only [List.mem_cons, List.not_mem_nil, or_false]; omega)
      have ha : h2[(y + 1)]? = some (.inl (1, 17, .inr (.inl (fun z9 => lN ((updN (ml A s i) i (ml A s i i * s % 2147483647)) z9))))) := he
      refine ar_go M_Y_makeHighestOne 1 _ 50 _ [some (.ref y), some (.long (lN s)), none, some (.int (nI i + Int32.ofInt 1))] _ [] rfl ?_
      rw [show nI i + Int32.ofInt 1 = nI (i + 1) from nI_add i 1]
      refine ar_go M_Y_makeHighestOne 1 _ 23 _ [some (.ref y), some (.long (lN s)), none, some (.int (nI (i + 1)))] _ [] rfl ?_
      exact ih (i + 1) h2 (by omega) (by omega) hy ha (hF.tr hf (by simp) (by simp))
theorem c_Y_makeHighestOne (X : am_X) (d : Nat) (h : am_H) {y k : Nat} {A : Nat → Nat} (hP : isP h y (k + 1) A) (hys : y < 1000) : ar Pg X (d + 1) n_Y_makeHighestOne 0 [some (.ref y), none, none, none] [] h (fun rr h' => rr = none ∧ fr [y + 1] h h' ∧ isP h' y (k + 1) (ml A (mf_iv (A k)) (k + 1))) := by
  obtain ⟨hk, hy, ha, hA⟩ := hP
  unfold isYO at hy
  unfold isLA at ha
  have hy : h[y]? = some (.inr (2, [.ref (y + 1), .int (nI k)])) := hy
  refine ar_go M_Y_makeHighestOne 1 _ 1 _ [some (.ref y), none, none, none] _ [.ref y] rfl ?_
  refine ar_get M_Y_makeHighestOne rfl rfl hy rfl ?_
  refine ar_if M_Y_makeHighestOne rfl rfl (fun _ => ?_) (fun hc => absurd (nI_pos' (by omega)) (of_decide_eq_false hc))
  refine ar_go M_Y_makeHighestOne 1 _ 9 _ [some (.ref y), none, none, none] _ [.ref y] rfl ?_
  refine ar_get M_Y_makeHighestOne rfl rfl hy rfl ?_
  refine ar_go M_Y_makeHighestOne 1 _ 13 _ [some (.ref y), none, none, none] _ [.ref y, .ref (y + 1)] rfl ?_
  refine ar_get M_Y_makeHighestOne rfl rfl hy rfl ?_
  refine ar_lald M_Y_makeHighestOne rfl ha (vp_in_nI (by omega) (by decide)) ?_
  rw [nI_clamp (n := k) (by omega)]
  have hak := hA k (by omega)
  refine ar_CS M_Y_makeHighestOne rfl rfl (Nat.le_of_ble_eq_true rfl) rfl rfl (Nat.le_of_ble_eq_true rfl) M_F_inverse (Nat.le_of_ble_eq_true rfl) (c_F_inverse X d _ (by omega)) (fun r1 h1 hq => ?_)
  obtain ⟨rfl, rfl⟩ := hq
  refine ⟨rfl, ?_⟩
  show ar Pg _ _ _ 20 [some (.ref y), none, none, none] [.long (lN (mf_iv (A k)))] _ _
  refine ar_go M_Y_makeHighestOne 3 _ 23 _ [some (.ref y), some (.long (lN (mf_iv (A k)))), none, some (.int (nI 0))] _ [] rfl ?_
  exact c_Y_mh_loop X d _ hys hk hA (Nat.lt_trans (mf_iv_lt _) (by decide)) (k + 2) 0 _ (by omega) (by omega) hy ha (fr.rf _ _)
theorem c_Y_d1_loop (X : am_X) (d : Nat) (h : am_H) {y z k q s mu : Nat} {A B : Nat → Nat} {Q : Option Value → am_H → Prop} (hys : y < 1000) (hzs : z < 1000) (hap : z + 2 ≤ y ∨ y + 2 ≤ z) (hsq : s + q < 17) (hA : lt17 A) (hB : lt17 B) (hmu : mu < 2147483647)
    (K : ∀ (h1 : am_H) (x6 : Option Value), isYO h1 y k → isLA h1 (y + 1) 17 (di1 A mu s B q) → fr [y + 1] h h1 → ar Pg X (d + 1) n_Y_divideInPlace 80 [some (.ref y), some (.ref z), some (.int (nI s)), some (.long (lN mu)), none, some (.int (nI q)), x6, none] [] h1 Q) :
    ∀ (n i : Nat) (h1 : am_H) (x6 : Option Value), q - i < n → i ≤ q → isYO h1 y k → isLA h1 (y + 1) 17 (di1 A mu s B i) → isYO h1 z (q + 1) → isLA h1 (z + 1) 17 B → fr [y + 1] h h1 → ar Pg X (d + 1) n_Y_divideInPlace 29 [some (.ref y), some (.ref z), some (.int (nI s)), some (.long (lN mu)), none, some (.int (nI i)), x6, none] [] h1 Q := by
  intro n
  induction n with
  | zero => intro i h1 x6 hn; omega
  | succ n ih =>
    intro i h1 x6 hn hiq hy ha hy2 ha2 hF
    unfold isYO at hy hy2
    unfold isLA at ha ha2
    have hy2 : h1[z]? = some (.inr (2, [.ref (z + 1), .int (nI q)])) := hy2
    refine ar_go M_Y_divideInPlace 2 _ 32 _ [some (.ref y), some (.ref z), some (.int (nI s)), some (.long (lN mu)), none, some (.int (nI i)), x6, none] _ [.ref z, .int (nI i)] rfl ?_
    refine ar_get M_Y_divideInPlace rfl rfl hy2 rfl ?_
    refine ar_icmp M_Y_divideInPlace rfl rfl (fun hc => ?_) (fun hc => ?_)
    · have hc := c2_ge_t (a := i) (b := q) (by omega) (by omega) hc
      have hi2 : i = q := by omega
      rw [hi2] at ha ⊢
      exact K h1 x6 hy ha hF
    · have hc := c2_ge_f (a := i) (b := q) (by omega) (by omega) hc
      have hbi := hB i (by omega)
      have hci := di1_17 hA mu s B i (s + i) (by omega)
      refine ar_go M_Y_divideInPlace 2 _ 40 _ [some (.ref y), some (.ref z), some (.int (nI s)), some (.long (lN mu)), none, some (.int (nI i)), x6, none] _ [.ref z, .long (lN mu)] rfl ?_
      refine ar_get M_Y_divideInPlace rfl rfl hy2 rfl ?_
      refine ar_go M_Y_divideInPlace 1 _ 45 _ [some (.ref y), some (.ref z), some (.int (nI s)), some (.long (lN mu)), none, some (.int (nI i)), x6, none] _ [.int (nI i), .ref (z + 1), .long (lN mu)] rfl ?_
      refine ar_lald M_Y_divideInPlace rfl ha2 (vp_in_nI (by omega) (by decide)) ?_
      rw [nI_clamp (n := i) (by omega)]
      refine ar_CS M_Y_divideInPlace rfl rfl (Nat.le_of_ble_eq_true rfl) rfl rfl (Nat.le_of_ble_eq_true rfl) M_F_times (Nat.le_of_ble_eq_true rfl) (c_F_times X d _ (by omega) (by omega)) (fun r1 h1 hq => ?_)
      obtain ⟨rfl, rfl⟩ := hq
      refine ⟨rfl, ?_⟩
      have hmm : mu * B i % 2147483647 < 2147483647 := Nat.mod_lt _ (by decide)
      show ar Pg _ _ _ 49 [some (.ref y), some (.ref z), some (.int (nI s)), some (.long (lN mu)), none, some (.int (nI i)), x6, none] [.long (lN (mu * B i % 2147483647))] _ _
      refine ar_go M_Y_divideInPlace 2 _ 52 _ [some (.ref y), some (.ref z), some (.int (nI s)), some (.long (lN mu)), none, some (.int (nI i)), some (.long (lN (mu * B i % 2147483647))), none] _ [.ref y] rfl ?_
      refine ar_get M_Y_divideInPlace rfl rfl hy rfl ?_
      refine ar_go M_Y_divideInPlace 3 _ 59 _ [some (.ref y), some (.ref z), some (.int (nI s)), some (.long (lN mu)), none, some (.int (nI i)), some (.long (lN (mu * B i % 2147483647))), none] _ [.int (nI s + nI i), .ref (y + 1)] rfl ?_
      refine ar_top (w := .int (nI (s + i))) (congrArg Value.int (nI_add s i)) ?_
      refine ar_go M_Y_divideInPlace 1 _ 60 _ [some (.ref y), some (.ref z), some (.int (nI s)), some (.long (lN mu)), none, some (.int (nI i)), some (.long (lN (mu * B i % 2147483647))), none] _ [.ref y, .int (nI (s + i)), .ref (y + 1)] rfl ?_
      refine ar_get M_Y_divideInPlace rfl rfl hy rfl ?_
      refine ar_go M_Y_divideInPlace 3 _ 67 _ [some (.ref y), some (.ref z), some (.int (nI s)), some (.long (lN mu)), none, some (.int (nI i)), some (.long (lN (mu * B i % 2147483647))), none] _ [.int (nI s + nI i), .ref (y + 1), .int (nI (s + i)), .ref (y + 1)] rfl ?_
      refine ar_top (w := .int (nI (s + i))) (congrArg Value.int (nI_add s i)) ?_
      refine ar_lald M_Y_divideInPlace rfl ha (vp_in_nI (by omega) (by decide)) ?_
      rw [nI_clamp (n := (s + i)) (by omega)]
      refine ar_go M_Y_divideInPlace 1 _ 70 _ [some (.ref y), some (.ref z), some (.int (nI s)), some (.long (lN mu)), none, some (.int (nI i)), some (.long (lN (mu * B i % 2147483647))), none] _ [.long (lN (mu * B i % 2147483647)), .long (lN ((di1 A mu s B i) (s + i))), .int (nI (s + i)), .ref (y + 1)] rfl ?_
      refine ar_CS M_Y_divideInPlace rfl rfl (Nat.le_of_ble_eq_true rfl) rfl rfl (Nat.le_of_ble_eq_true rfl) M_F_minus (Nat.le_of_ble_eq_true rfl) (c_F_minus X d _ (by omega) (by omega) (by omega)) (fun r1 h1 hq => ?_)
      obtain ⟨rfl, rfl⟩ := hq
      refine ⟨rfl, ?_⟩
      show ar Pg _ _ _ 73 [some (.ref y), some (.ref z), some (.int (nI s)), some (.long (lN mu)), none, some (.int (nI i)), some (.long (lN (mu * B i % 2147483647))), none] [.long (lN ((di1 A mu s B i (s + i) + 2147483647 - mu * B i % 2147483647) % 2147483647)), .int (nI (s + i)), .ref (y + 1)] _ _
      refine ar_last M_Y_divideInPlace rfl ha (vp_in_nI (by omega) (by decide)) (fun h2 hf he => ?_)
      rw [nI_clamp (n := (s + i)) (by omega)] at he
      rw [updL_lN] at he
      have hy := hf.at hy (by simp only [List.mem_cons, List.not_mem_nil, or_false]; omega)
      have hy2 := hf.at hy2 (by simp only [List.mem_cons, List.not_mem_nil, or_false]; omega)
      have ha2 := hf.at ha2 (by simp only [List.mem_cons, List.not_mem_nil, or_false]; omega)
      have ha : h2[(y + 1)]? = some (.inl (1, 17, .inr (.inl (fun z9 => lN ((updN (di1 A mu s B i) (s + i) ((di1 A mu s B i (s + i) + 2147483647 - mu * B i % 2147483647) % 2147483647)) z9))))) := he
      refine ar_go M_Y_divideInPlace 1 _ 77 _ [some (.ref y), some (.ref z), some (.int (nI s)), some (.long (lN mu)), none, some (.int (nI i + Int32.ofInt 1)), some (.long (lN (mu * B i % 2147483647))), none] _ [] rfl ?_
      rw [show nI i + Int32.ofInt 1 = nI (i + 1) from nI_add i 1]
      refine ar_go M_Y_divideInPlace 1 _ 29 _ [some (.ref y), some (.ref z), some (.int (nI s)), some (.long (lN mu)), none, some (.int (nI (i + 1))), some (.long (lN (mu * B i % 2147483647))), none] _ [] rfl ?_
      exact ih (i + 1) h2 _ (by omega) (by omega) hy ha hy2 ha2 (hF.tr hf (by simp) (by simp))
theorem c_Y_d2_loop (X : am_X) (d : Nat) (h : am_H) {y z k q : Nat} {B : Nat → Nat} (hys : y < 1000) (hzs : z < 1000) (hap : z + 2 ≤ y ∨ y + 2 ≤ z) (hk : k ≤ 17) (hB : lt17 B) : ∀ (n : Nat) (h1 : am_H) (A : Nat → Nat) (x3 x5 x6 : Option Value), n + q ≤ 17 → isYO h1 y k → isLA h1 (y + 1) 17 A → isYO h1 z (q + 1) → isLA h1 (z + 1) 17 B → lt17 A → fr [y + 1] h h1 → ar Pg X (d + 1) n_Y_divideInPlace 10 [some (.ref y), some (.ref z), some (.int (dI n)), x3, none, x5, x6, none] [] h1 (fun rr h' => rr = none ∧ fr [y + 1] h h' ∧ isP h' y k (dv B q n A)) := by
  intro n
  induction n with
  | zero =>
    intro h1 A x3 x5 x6 hn hy ha hy2 ha2 hA hF
    refine ar_go M_Y_divideInPlace 1 _ 11 _ [some (.ref y), some (.ref z), some (.int (dI 0)), x3, none, x5, x6, none] _ [.int (-1)] rfl ?_
    refine ar_if M_Y_divideInPlace rfl rfl (fun _ => ?_) (fun z => absurd z (by decide))
    exact ar_R M_Y_divideInPlace rfl rfl rfl rfl ⟨rfl, hF, hk, hy, ha, hA⟩
  | succ n ih =>
    intro h1 A x3 x5 x6 hn hy ha hy2 ha2 hA hF
    unfold isYO at hy hy2
    unfold isLA at ha ha2
    have hy2 : h1[z]? = some (.inr (2, [.ref (z + 1), .int (nI q)])) := hy2
    show ar Pg X (d + 1) n_Y_divideInPlace 10 [some (.ref y), some (.ref z), some (.int (nI n)), x3, none, x5, x6, none] [] h1 _
    refine ar_go M_Y_divideInPlace 1 _ 11 _ [some (.ref y), some (.ref z), some (.int (nI n)), x3, none, x5, x6, none] _ [.int (nI n)] rfl ?_
    refine ar_if M_Y_divideInPlace rfl rfl (fun hc => absurd (of_decide_eq_true hc) (nI_pos (by omega))) (fun _ => ?_)
    have han := hA (n + q) (by omega)
    refine ar_go M_Y_divideInPlace 1 _ 15 _ [some (.ref y), some (.ref z), some (.int (nI n)), x3, none, x5, x6, none] _ [.ref y] rfl ?_
    refine ar_get M_Y_divideInPlace rfl rfl hy rfl ?_
    refine ar_go M_Y_divideInPlace 2 _ 20 _ [some (.ref y), some (.ref z), some (.int (nI n)), x3, none, x5, x6, none] _ [.ref z, .int (nI n), .ref (y + 1)] rfl ?_
    refine ar_get M_Y_divideInPlace rfl rfl hy2 rfl ?_
    refine ar_go M_Y_divideInPlace 1 _ 24 _ [some (.ref y), some (.ref z), some (.int (nI n)), x3, none, x5, x6, none] _ [.int (nI n + nI q), .ref (y + 1)] rfl ?_
    refine ar_top (w := .int (nI (n + q))) (congrArg Value.int (nI_add n q)) ?_
    refine ar_lald M_Y_divideInPlace rfl ha (vp_in_nI (by omega) (by decide)) ?_
    rw [nI_clamp (n := (n + q)) (by omega)]
    refine ar_go M_Y_divideInPlace 3 _ 29 _ [some (.ref y), some (.ref z), some (.int (nI n)), some (.long (lN (A (n + q)))), none, some (.int (nI 0)), x6, none] _ [] rfl ?_
    refine c_Y_d1_loop X d h1 (k := k) hys hzs hap (by omega) hA hB han ?_ (q + 1) 0 h1 _ (by omega) (by omega) hy ha hy2 ha2 (fr.rf _ _)
    intro h2 x6 hy3 ha3 hf
    have hy2 := hf.at hy2 (by simp; omega)
    have ha2 := hf.at ha2 (by simp; omega)
    refine ar_go M_Y_divideInPlace 1 _ 83 _ [some (.ref y), some (.ref z), some (.int (nI n + Int32.ofInt (-1))), some (.long (lN (A (n + q)))), none, some (.int (nI q)), x6, none] _ [] rfl ?_
    rw [show nI n + Int32.ofInt (-1) = dI n from dI_pred n]
    refine ar_go M_Y_divideInPlace 1 _ 10 _ [some (.ref y), some (.ref z), some (.int (dI n)), some (.long (lN (A (n + q)))), none, some (.int (nI q)), x6, none] _ [] rfl ?_
    exact ih h2 _ _ _ _ (by omega) hy3 ha3 hy2 ha2 (di1_17 hA _ _ _ _) (hF.tr hf (by simp) (by simp))
theorem c_Y_divideInPlace (X : am_X) (d : Nat) (h : am_H) {y z k q : Nat} {A B : Nat → Nat} (hP : isP h y k A) (hP2 : isP h z (q + 1) B) (hys : y < 1000) (hzs : z < 1000) (hap : z + 2 ≤ y ∨ y + 2 ≤ z) : ar Pg X (d + 1) n_Y_divideInPlace 0 [some (.ref y), some (.ref z), none, none, none, none, none, none] [] h (fun rr h' => rr = none ∧ fr [y + 1] h h' ∧ isP h' y k (dv B q (k - q) A)) := by
  have hP0 := hP
  have hP20 := hP2
  obtain ⟨hk, hy, ha, hA⟩ := hP
  obtain ⟨hq, hy2, ha2, hB⟩ := hP2
  unfold isYO at hy hy2
  unfold isLA at ha ha2
  have hy2 : h[z]? = some (.inr (2, [.ref (z + 1), .int (nI q)])) := hy2
  refine ar_go M_Y_divideInPlace 1 _ 1 _ [some (.ref y), some (.ref z), none, none, none, none, none, none] _ [.ref y] rfl ?_
  refine ar_get M_Y_divideInPlace rfl rfl hy rfl ?_
  refine ar_go M_Y_divideInPlace 1 _ 5 _ [some (.ref y), some (.ref z), none, none, none, none, none, none] _ [.ref z, .int (dI k)] rfl ?_
  refine ar_get M_Y_divideInPlace rfl rfl hy2 rfl ?_
  refine ar_go M_Y_divideInPlace 1 _ 9 _ [some (.ref y), some (.ref z), none, none, none, none, none, none] _ [.int ((dI k) - nI q)] rfl ?_
  by_cases hkq : k ≤ q
  · refine ar_go M_Y_divideInPlace 2 _ 11 _ [some (.ref y), some (.ref z), some (.int ((dI k) - nI q)), none, none, none, none, none] _ [.int ((dI k) - nI q)] rfl ?_
    refine ar_if M_Y_divideInPlace rfl rfl (fun _ => ?_) (fun z => absurd (dI_neg k (by omega) q (by omega) hkq) (by rw [z]; decide))
    rw [show k - q = 0 by omega]
    exact ar_R M_Y_divideInPlace rfl rfl rfl rfl (⟨rfl, fr.rf _ _, hP0⟩)
  · obtain ⟨k, rfl⟩ : ∃ j, k = j + 1 := ⟨k - 1, by omega⟩
    rw [dI_sub (by omega)]
    refine ar_go M_Y_divideInPlace 1 _ 10 _ [some (.ref y), some (.ref z), some (.int (nI (k - q))), none, none, none, none, none] _ [] rfl ?_
    have := c_Y_d2_loop X d h hys hzs hap hk hB (k - q + 1) h A none none none (by omega) hy ha hy2 ha2 hA (fr.rf _ _)
    rw [show k + 1 - q = k - q + 1 by omega]
    exact this
end
section
/-! Polynomial: remainder, quotient -/
theorem c_Y_tr_loop (X : am_X) (d : Nat) (h : am_H) {y z : Nat} {C : Nat → Nat} (hys : y < 1000) (hC : lt17 C) : ∀ (j : Nat) (h1 : am_H), j ≤ 17 → isYO h1 y j → isLA h1 (y + 1) 17 C → fr [y, y + 1] h h1 → ar Pg X (d + 1) n_Y_becomeRemainder 22 [some (.ref y), some (.ref z)] [] h1 (fun rr h' => rr = none ∧ fr [y, y + 1] h h' ∧ isP h' y (trm C j) C) := by
  intro j
  induction j with
  | zero =>
    intro h1 hj hy ha hF
    refine ar_go M_Y_becomeRemainder 1 _ 23 _ [some (.ref y), some (.ref z)] _ [.ref y] rfl ?_
    refine ar_get M_Y_becomeRemainder rfl rfl hy rfl ?_
    refine ar_if M_Y_becomeRemainder rfl rfl (fun _ => ?_) (fun z => absurd z (by decide))
    exact ar_R M_Y_becomeRemainder rfl rfl rfl rfl ⟨rfl, hF, by simp [trm], hy, ha, hC⟩
  | succ j ih =>
    intro h1 hj hy ha hF
    unfold isYO at hy
    unfold isLA at ha
    have hy : h1[y]? = some (.inr (2, [.ref (y + 1), .int (nI j)])) := hy
    refine ar_go M_Y_becomeRemainder 1 _ 23 _ [some (.ref y), some (.ref z)] _ [.ref y] rfl ?_
    refine ar_get M_Y_becomeRemainder rfl rfl hy rfl ?_
    refine ar_if M_Y_becomeRemainder rfl rfl (fun hc => absurd (of_decide_eq_true hc) (nI_pos (by omega))) (fun _ => ?_)
    refine ar_go M_Y_becomeRemainder 1 _ 30 _ [some (.ref y), some (.ref z)] _ [.ref y] rfl ?_
    refine ar_get M_Y_becomeRemainder rfl rfl hy rfl ?_
    refine ar_go M_Y_becomeRemainder 1 _ 34 _ [some (.ref y), some (.ref z)] _ [.ref y, .ref (y + 1)] rfl ?_
    refine ar_get M_Y_becomeRemainder rfl rfl hy rfl ?_
    refine ar_lald M_Y_becomeRemainder rfl ha (vp_in_nI (by omega) (by decide)) ?_
    rw [nI_clamp (n := j) (by omega)]
    refine ar_go M_Y_becomeRemainder 1 _ 39 _ [some (.ref y), some (.ref z)] _ [.long (lN 0), .long (lN (C j))] rfl ?_
    have hcj := hC j (by omega)
    refine ar_go M_Y_becomeRemainder 1 _ 40 _ [some (.ref y), some (.ref z)] _ [.int (lg_cmp (lN (C j)) (lN 0))] rfl ?_
    refine ar_top (w := .int (if C j = 0 then 0 else 1)) (congrArg Value.int (lcmp0 hcj)) ?_
    by_cases h0 : C j = 0
    · rw [if_pos h0]
      refine ar_if M_Y_becomeRemainder rfl rfl (fun z => absurd z (by decide)) (fun _ => ?_)
      refine ar_go M_Y_becomeRemainder 2 _ 45 _ [some (.ref y), some (.ref z)] _ [.ref y, .ref y] rfl ?_
      refine ar_get M_Y_becomeRemainder rfl rfl hy rfl ?_
      refine ar_go M_Y_becomeRemainder 2 _ 50 _ [some (.ref y), some (.ref z)] _ [.int (nI j - nI 1), .ref y] rfl ?_
      refine ar_top (w := .int (dI j)) (congrArg Value.int (dI_1 j)) ?_
      refine ar_put M_Y_becomeRemainder rfl rfl hy (Nat.le_of_ble_eq_true rfl) rfl (Nat.le_of_ble_eq_true rfl) (fun h2 hf he => ?_)
      have ha := hf.at ha (by simp only [List.mem_cons, List.not_mem_nil, or_false]; omega)
      have hy : h2[y]? = some (.inr (2, [.ref (y + 1), .int (dI j)])) := he
      refine ar_go M_Y_becomeRemainder 1 _ 22 _ [some (.ref y), some (.ref z)] _ [] rfl ?_
      rw [trm, if_pos h0]
      exact ih h2 (by omega) hy ha (hF.tr hf (by simp) (by simp))
    · rw [if_neg h0]
      refine ar_if M_Y_becomeRemainder rfl rfl (fun _ => ?_) (fun z => absurd z (by decide))
      rw [trm, if_neg h0]
      exact ar_R M_Y_becomeRemainder rfl rfl rfl rfl (⟨rfl, hF, hj, hy, ha, hC⟩)
theorem c_Y_becomeRemainder (X : am_X) (d : Nat) (h : am_H) {y z k q : Nat} {A B : Nat → Nat} (hP : isP h y k A) (hP2 : isP h z (q + 1) B) (hys : y < 1000) (hzs : z < 1000) (hap : z + 2 ≤ y ∨ y + 2 ≤ z) : ar Pg X (d + 1 + 1) n_Y_becomeRemainder 0 [some (.ref y), some (.ref z)] [] h (fun rr h' => rr = none ∧ fr [y, y + 1] h h' ∧ isP h' y (trm (dv B q (k - q) A) (min k q)) (dv B q (k - q) A)) := by
  have hP0 := hP
  have hP20 := hP2
  obtain ⟨hk, hy, ha, hA⟩ := hP
  obtain ⟨hq, hy2, ha2, hB⟩ := hP2
  unfold isYO at hy hy2
  unfold isLA at ha ha2
  have hy2 : h[z]? = some (.inr (2, [.ref (z + 1), .int (nI q)])) := hy2
  refine ar_go M_Y_becomeRemainder 2 _ 2 _ [some (.ref y), some (.ref z)] _ [.ref z, .ref y] rfl ?_
  refine ar_CV M_Y_becomeRemainder rfl rfl (Or.inl rfl) rfl rfl (Nat.le_of_ble_eq_true rfl) hy M_Y_divideInPlace (Nat.le_of_ble_eq_true rfl) (c_Y_divideInPlace X d _ hP0 hP20 hys hzs hap) (fun r1 h2 hq => ?_)
  obtain ⟨rfl, hf, hP3⟩ := hq
  refine ⟨hf.1, ?_⟩
  have hy2 := hf.at hy2 (by simp; omega)
  clear hy ha
  obtain ⟨-, hy, ha, hC⟩ := hP3
  unfold isYO at hy
  unfold isLA at ha
  have k1 := hf
  show ar Pg _ _ _ 5 [some (.ref y), some (.ref z)] [] _ _
  refine ar_go M_Y_becomeRemainder 2 _ 7 _ [some (.ref y), some (.ref z)] _ [.ref y, .ref y] rfl ?_
  refine ar_get M_Y_becomeRemainder rfl rfl hy rfl ?_
  refine ar_go M_Y_becomeRemainder 1 _ 11 _ [some (.ref y), some (.ref z)] _ [.ref z, .int (dI k), .ref y] rfl ?_
  refine ar_get M_Y_becomeRemainder rfl rfl hy2 rfl ?_
  refine ar_go M_Y_becomeRemainder 2 _ 16 _ [some (.ref y), some (.ref z)] _ [.int (nI q - nI 1), .int (dI k), .ref y] rfl ?_
  refine ar_top (w := .int (dI q)) (congrArg Value.int (dI_1 q)) ?_
  refine ar_mmin M_Y_becomeRemainder rfl rfl (Nat.succ_pos _) (Nat.le_of_ble_eq_true rfl) (dI_min k (by omega) q (by omega)) ?_
  refine ar_put M_Y_becomeRemainder rfl rfl hy (Nat.le_of_ble_eq_true rfl) rfl (Nat.le_of_ble_eq_true rfl) (fun h3 hf he => ?_)
  have ha := hf.at ha (by simp only [List.mem_cons, List.not_mem_nil, or_false]; omega)
  have hy2 := hf.at hy2 (by simp only [List.mem_cons, List.not_mem_nil, or_false]; omega)
  have hy : h3[y]? = some (.inr (2, [.ref (y + 1), .int (dI (min k q))])) := he
  exact c_Y_tr_loop X (d + 1) h hys hC (min k q) h3 (by omega) hy ha (k1.tr hf (by simp) (by simp))
theorem c_Y_qu_loop (X : am_X) (d : Nat) (h : am_H) {y z n q : Nat} {C : Nat → Nat} (hys : y < 1000) (hzs : z < 1000) (hap : z + 2 ≤ y ∨ y + 2 ≤ z) (hnq : n + 1 + q ≤ 17) (hC : lt17 C) : ∀ (k i : Nat) (h1 : am_H), n + 1 - i < k → i ≤ n + 1 → isYO h1 y (n + 1) → isLA h1 (y + 1) 17 (shd C q i) → isYO h1 z (q + 1) → fr [y, y + 1] h h1 → ar Pg X (d + 1) n_Y_becomeQuotient 20 [some (.ref y), some (.ref z), some (.int (nI i))] [] h1 (fun rr h' => rr = none ∧ fr [y, y + 1] h h' ∧ isP h' y (n + 1) (shd C q (n + 1))) := by
  intro k
  induction k with
  | zero => intro i h1 hk; omega
  | succ k ih =>
    intro i h1 hk hin hy ha hy2 hF
    unfold isYO at hy hy2
    unfold isLA at ha
    have hy : h1[y]? = some (.inr (2, [.ref (y + 1), .int (nI n)])) := hy
    have hy2 : h1[z]? = some (.inr (2, [.ref (z + 1), .int (nI q)])) := hy2
    refine ar_go M_Y_becomeQuotient 2 _ 22 _ [some (.ref y), some (.ref z), some (.int (nI i))] _ [.ref y, .int (nI i)] rfl ?_
    refine ar_get M_Y_becomeQuotient rfl rfl hy rfl ?_
    refine ar_icmp M_Y_becomeQuotient rfl rfl (fun hc => ?_) (fun hc => ?_)
    · have hc := c2_gt_t (a := i) (b := n) (by omega) (by omega) hc
      have hi2 : i = n + 1 := by omega
      rw [hi2] at ha
      exact ar_R M_Y_becomeQuotient rfl rfl rfl rfl (⟨rfl, hF, by omega, hy, ha, shd_17 hC q _ (by omega)⟩)
    · have hc := c2_gt_f (a := i) (b := n) (by omega) (by omega) hc
      refine ar_go M_Y_becomeQuotient 1 _ 29 _ [some (.ref y), some (.ref z), some (.int (nI i))] _ [.ref y] rfl ?_
      refine ar_get M_Y_becomeQuotient rfl rfl hy rfl ?_
      refine ar_go M_Y_becomeQuotient 2 _ 34 _ [some (.ref y), some (.ref z), some (.int (nI i))] _ [.ref y, .int (nI i), .ref (y + 1)] rfl ?_
      refine ar_get M_Y_becomeQuotient rfl rfl hy rfl ?_
      refine ar_go M_Y_becomeQuotient 2 _ 39 _ [some (.ref y), some (.ref z), some (.int (nI i))] _ [.ref z, .int (nI i), .ref (y + 1), .int (nI i), .ref (y + 1)] rfl ?_
      refine ar_get M_Y_becomeQuotient rfl rfl hy2 rfl ?_
      refine ar_go M_Y_becomeQuotient 1 _ 43 _ [some (.ref y), some (.ref z), some (.int (nI i))] _ [.int (nI i + nI q), .ref (y + 1), .int (nI i), .ref (y + 1)] rfl ?_
      refine ar_top (w := .int (nI (i + q))) (congrArg Value.int (nI_add i q)) ?_
      refine ar_lald M_Y_becomeQuotient rfl ha (vp_in_nI (by omega) (by decide)) ?_
      rw [nI_clamp (n := (i + q)) (by omega)]
      refine ar_last M_Y_becomeQuotient rfl ha (vp_in_nI (by omega) (by decide)) (fun h2 hf he => ?_)
      rw [nI_clamp (n := i) (by omega)] at he
      rw [updL_lN] at he
      have hy := hf.at hy (by simp only [List.mem_cons, List.not_mem_nil, or_false]; omega)
      have hy2 := hf.at hy2 (by simp only [List.mem_cons, List.not_mem_nil, or_false]; omega)
      have ha : h2[(y + 1)]? = some (.inl (1, 17, .inr (.inl (fun z9 => lN ((updN (shd C q i) i ((shd C q i) (i + q))) z9))))) := he
      refine ar_go M_Y_becomeQuotient 1 _ 48 _ [some (.ref y), some (.ref z), some (.int (nI i + Int32.ofInt 1))] _ [] rfl ?_
      rw [show nI i + Int32.ofInt 1 = nI (i + 1) from nI_add i 1]
      refine ar_go M_Y_becomeQuotient 1 _ 20 _ [some (.ref y), some (.ref z), some (.int (nI (i + 1)))] _ [] rfl ?_
      exact ih (i + 1) h2 (by omega) (by omega) hy ha hy2 (hF.tr hf (by simp) (by simp))
theorem c_Y_becomeQuotient (X : am_X) (d : Nat) (h : am_H) {y z k q : Nat} {A B : Nat → Nat} (hP : isP h y (k + 1) A) (hP2 : isP h z (q + 1) B) (hys : y < 1000) (hzs : z < 1000) (hap : z + 2 ≤ y ∨ y + 2 ≤ z) (hqk : q ≤ k) : ar Pg X (d + 1 + 1) n_Y_becomeQuotient 0 [some (.ref y), some (.ref z), none] [] h (fun rr h' => rr = none ∧ fr [y, y + 1] h h' ∧ isP h' y (k - q + 1) (shd (dv B q (k + 1 - q) A) q (k - q + 1))) := by
  have hP0 := hP
  have hP20 := hP2
  obtain ⟨hk, hy, ha, hA⟩ := hP
  obtain ⟨hq, hy2, ha2, hB⟩ := hP2
  unfold isYO at hy hy2
  unfold isLA at ha ha2
  have hy2 : h[z]? = some (.inr (2, [.ref (z + 1), .int (nI q)])) := hy2
  refine ar_go M_Y_becomeQuotient 2 _ 2 _ [some (.ref y), some (.ref z), none] _ [.ref z, .ref y] rfl ?_
  refine ar_CV M_Y_becomeQuotient rfl rfl (Or.inl rfl) rfl rfl (Nat.le_of_ble_eq_true rfl) hy M_Y_divideInPlace (Nat.le_of_ble_eq_true rfl) (c_Y_divideInPlace X d _ hP0 hP20 hys hzs hap) (fun r1 h2 hq => ?_)
  obtain ⟨rfl, hf, hP3⟩ := hq
  refine ⟨hf.1, ?_⟩
  have hy2 := hf.at hy2 (by simp; omega)
  clear hy ha
  obtain ⟨-, hy, ha, hC⟩ := hP3
  unfold isYO at hy
  unfold isLA at ha
  have k1 := hf
  show ar Pg _ _ _ 5 [some (.ref y), some (.ref z), none] [] _ _
  refine ar_go M_Y_becomeQuotient 2 _ 7 _ [some (.ref y), some (.ref z), none] _ [.ref y, .ref y] rfl ?_
  refine ar_get M_Y_becomeQuotient rfl rfl hy rfl ?_
  refine ar_go M_Y_becomeQuotient 1 _ 11 _ [some (.ref y), some (.ref z), none] _ [.ref z, .int (dI (k + 1)), .ref y] rfl ?_
  refine ar_get M_Y_becomeQuotient rfl rfl hy2 rfl ?_
  refine ar_go M_Y_becomeQuotient 1 _ 15 _ [some (.ref y), some (.ref z), none] _ [.int ((dI (k + 1)) - nI q), .ref y] rfl ?_
  refine ar_top (w := .int (nI (k - q))) (congrArg Value.int (dI_sub hqk)) ?_
  refine ar_put M_Y_becomeQuotient rfl rfl hy (Nat.le_of_ble_eq_true rfl) rfl (Nat.le_of_ble_eq_true rfl) (fun h3 hf he => ?_)
  have ha := hf.at ha (by simp only [List.mem_cons, List.not_mem_nil, or_false]; omega)
  have hy2 := hf.at hy2 (by simp only [List.mem_cons, List.not_mem_nil, or_false]; omega)
  have hy : h3[y]? = some (.inr (2, [.ref (y + 1), .int (nI (k - q))])) := he
  refine ar_go M_Y_becomeQuotient 2 _ 20 _ [some (.ref y), some (.ref z), some (.int (nI 0))] _ [] rfl ?_
  exact c_Y_qu_loop X (d + 1) h hys hzs hap (by omega) hC (k - q + 2) 0 h3 (by omega) (by omega) hy ha hy2 (k1.tr hf (by simp) (by simp))
end
section
/-! Equations in their cells: object 19, the array of rows 20, the rows 21 .. 36 in some order, rowOfUnknown 37 -/
def eqL : List Nat := List.range' 19 19
theorem mem_eqL {k : Nat} : k ∈ eqL ↔ 19 ≤ k ∧ k < 38 := by
  unfold eqL
  rw [List.mem_range'_1]
def ruI (o : Option Nat) : Int32 := match o with
  | none => -1
  | some r => nI r
def updM (M : Nat → Nat → Nat) (i : Nat) (A : Nat → Nat) : Nat → Nat → Nat := fun a => if a = i then A else M a
theorem updM_s (M : Nat → Nat → Nat) (i : Nat) (A : Nat → Nat) : updM M i A i = A := by simp [updM]
theorem updM_n (M : Nat → Nat → Nat) {i a : Nat} (A : Nat → Nat) (h : a ≠ i) : updM M i A a = M a := by simp [updM, h]
def rwOk (ro : Nat → Nat) : Prop := (∀ i, i < 16 → 21 ≤ ro i ∧ ro i < 37) ∧ ∀ i j, i < 16 → j < 16 → ro i = ro j → i = j
/-- the matrix M, c equations, uk the row of each unknown; ro: which cell is which row -/
def isQ (h : am_H) (ro : Nat → Nat) (c : Nat) (M : Nat → Nat → Nat) (uk : Nat → Option Nat) : Prop :=
  h[19]? = some (.inr (3, [.ref 20, .ref 37, .int (nI c)])) ∧ (∃ g : Nat → Option Nat, h[20]? = some (.inl (3, 16, .inr (.inr (.inr (.inr g))))) ∧ ∀ i, i < 16 → g i = some (ro i)) ∧ rwOk ro ∧ (∀ i, i < 16 → h[ro i]? = some (.inl (1, 17, .inr (.inl (fun z9 => lN (M i z9)))))) ∧ (∀ i, i < 16 → lt17 (M i)) ∧ h[37]? = some (.inl (0, 16, .inl (fun i => ruI (uk i))))
theorem isQ.mv {h h1 : am_H} {ro : Nat → Nat} {c : Nat} {M : Nat → Nat → Nat} {uk : Nat → Option Nat} {s : List Nat} (hQ : isQ h ro c M uk) (hf : fr s h h1) (hs : ∀ k, 19 ≤ k → k < 38 → k ∉ s) : isQ h1 ro c M uk := by
  obtain ⟨q1, ⟨g, q2, q3⟩, q4, q5, q6, q7⟩ := hQ
  exact ⟨hf.at q1 (hs _ (by decide) (by decide)), ⟨g, hf.at q2 (hs _ (by decide) (by decide)), q3⟩, q4, fun i hi => hf.at (q5 i hi) (hs _ (by have := q4.1 i hi; omega) (by have := q4.1 i hi; omega)), q6, hf.at q7 (hs _ (by decide) (by decide))⟩
/-- a row gets new contents -/
theorem isQ.set {h h1 : am_H} {ro : Nat → Nat} {c i : Nat} {M : Nat → Nat → Nat} {uk : Nat → Option Nat} {A : Nat → Nat} (hQ : isQ h ro c M uk) (hi : i < 16) (hf : fr [ro i] h h1) (he : h1[ro i]? = some (.inl (1, 17, .inr (.inl (fun z9 => lN (A z9)))))) (hA : lt17 A) : isQ h1 ro c (updM M i A) uk := by
  obtain ⟨q1, ⟨g, q2, q3⟩, q4, q5, q6, q7⟩ := hQ
  have hb := q4.1 i hi
  refine ⟨hf.at q1 (by simp; omega), ⟨g, hf.at q2 (by simp; omega), q3⟩, q4, fun j hj => ?_, fun j hj => ?_, hf.at q7 (by simp; omega)⟩
  · by_cases e : j = i
    · subst e
      rw [updM_s]
      exact he
    · rw [updM_n _ _ e]
      exact hf.at (q5 j hj) (by simp; exact fun z => e (q4.2 j i hj hi z))
  · by_cases e : j = i
    · subst e
      rw [updM_s]
      exact hA
    · rw [updM_n _ _ e]
      exact q6 j hj
theorem eq_sub {ro : Nat → Nat} (h : rwOk ro) {i : Nat} (hi : i < 16) : ∀ k ∈ [ro i], k ∈ eqL := by
  intro k hk
  rw [List.mem_singleton] at hk
  rw [mem_eqL, hk]
  have := h.1 i hi
  omega
/-- two rows change places -/
def swN (f : Nat → Nat) (a b : Nat) : Nat → Nat := fun i => if i = b then f a else if i = a then f b else f i
def swM (M : Nat → Nat → Nat) (a b : Nat) : Nat → Nat → Nat := fun i => if i = b then M a else if i = a then M b else M i
theorem swN_ok {ro : Nat → Nat} (h : rwOk ro) {a b : Nat} (ha : a < 16) (hb : b < 16) : rwOk (swN ro a b) := by
  refine ⟨fun i hi => ?_, fun i j hi hj e => ?_⟩
  · unfold swN
    split
    · exact h.1 a ha
    · split
      · exact h.1 b hb
      · exact h.1 i hi
  · have key : ∀ i, i < 16 → ∃ k, k < 16 ∧ swN ro a b i = ro k ∧ k = if i = b then a else if i = a then b else i := by
      intro i hi
      unfold swN
      split
      · exact ⟨a, ha, rfl, rfl⟩
      · split
        · exact ⟨b, hb, rfl, rfl⟩
        · exact ⟨i, hi, rfl, rfl⟩
    obtain ⟨k1, l1, e1, d1⟩ := key i hi
    obtain ⟨k2, l2, e2, d2⟩ := key j hj
    rw [e1, e2] at e
    have := h.2 k1 k2 l1 l2 e
    subst this
    rw [d1] at d2
    split at d2 <;> split at d2 <;> (try split at d2) <;> (try split at d2) <;> omega
-- what the methods reckon
def sc1 (A : Nat → Nat) (s fm : Nat) : Nat → Nat → Nat
  | 0 => A
  | i + 1 => updN (sc1 A s fm i) (fm + i) (sc1 A s fm i (fm + i) * s % 2147483647)
theorem sc1_17 {A : Nat → Nat} (h : lt17 A) (s fm : Nat) : ∀ i, lt17 (sc1 A s fm i)
  | 0 => h
  | i + 1 => (sc1_17 h s fm i).up _ (Nat.mod_lt _ (by decide))
def cl1 (A U : Nat → Nat) (mu col : Nat) : Nat → Nat → Nat
  | 0 => A
  | i + 1 => updN (cl1 A U mu col i) (col + i) ((cl1 A U mu col i (col + i) + 2147483647 - mu * U (col + i) % 2147483647) % 2147483647)
theorem cl1_17 {A : Nat → Nat} (h : lt17 A) (U : Nat → Nat) (mu col : Nat) : ∀ i, lt17 (cl1 A U mu col i)
  | 0 => h
  | i + 1 => (cl1_17 h U mu col i).up _ (Nat.mod_lt _ (by decide))
def clr (M : Nat → Nat → Nat) (used col c : Nat) : Nat → Nat → Nat → Nat
  | 0 => M
  | r + 1 => if r = used then clr M used col c r else if clr M used col c r r col = 0 then clr M used col c r else updM (clr M used col c r) r (cl1 (clr M used col c r r) (clr M used col c r used) (clr M used col c r r col) col (c + 1 - col))
def fz (M : Nat → Nat → Nat) (col : Nat) : Nat → Nat → Nat
  | 0, row => row
  | n + 1, row => if M row col = 0 then fz M col n (row + 1) else row
def rs0 (M : Nat → Nat → Nat) (c : Nat) : Nat → Nat → Bool
  | 0, _ => true
  | n + 1, row => if M row c = 0 then rs0 M c n (row + 1) else false
def unk (M : Nat → Nat → Nat) (uk : Nat → Option Nat) (c col : Nat) : Nat := match uk col with
  | none => 0
  | some r => M r c
end
section
/-! Equations: the small methods -/
theorem c_Q_unknown (X : am_X) (d : Nat) (h : am_H) {ro : Nat → Nat} {c col : Nat} {M : Nat → Nat → Nat} {uk : Nat → Option Nat} (hQ : isQ h ro c M uk) (hc : c < 17) (hcol : col < 16) (huk : ∀ i r, i < 16 → uk i = some r → r < 16) : ar Pg X d n_Q_unknown 0 [some (.ref 19), some (.int (nI col)), none] [] h (fun rr h' => rr = some (.long (lN (unk M uk c col))) ∧ h' = h) := by
  obtain ⟨q1, ⟨g, q2, q3⟩, q4, q5, q6, q7⟩ := hQ
  refine ar_go M_Q_unknown 1 _ 1 _ [some (.ref 19), some (.int (nI col)), none] _ [.ref 19] rfl ?_
  refine ar_get M_Q_unknown rfl rfl q1 rfl ?_
  refine ar_go M_Q_unknown 1 _ 5 _ [some (.ref 19), some (.int (nI col)), none] _ [.int (nI col), .ref 37] rfl ?_
  refine ar_iald M_Q_unknown rfl (by unfold am_x0; omega) q7 (vp_in_nI (by omega) (by decide)) ?_
  rw [nI_clamp (n := col) (by omega)]
  refine ar_top (w := .int (ruI (uk col))) (congrArg Value.int rfl) ?_
  refine ar_go M_Q_unknown 3 _ 9 _ [some (.ref 19), some (.int (nI col)), some (.int (ruI (uk col)))] _ [.int (-1), .int (ruI (uk col))] rfl ?_
  cases hu : uk col with
  | none =>
      refine ar_icmp M_Q_unknown rfl rfl (fun z => absurd z (by decide)) (fun _ => ?_)
      refine ar_go M_Q_unknown 2 _ 27 _ [some (.ref 19), some (.int (nI col)), some (.int (-1))] _ [.long (lN 0)] rfl ?_
      exact ar_R M_Q_unknown rfl rfl rfl rfl (⟨by unfold unk; rw [hu], rfl⟩)
  | some rr =>
      have hrr := huk col rr hcol hu
      refine ar_icmp M_Q_unknown rfl rfl (fun _ => ?_) (fun z => ?_)
      · refine ar_go M_Q_unknown 1 _ 17 _ [some (.ref 19), some (.int (nI col)), some (.int (nI rr))] _ [.ref 19] rfl ?_
        refine ar_get M_Q_unknown rfl rfl q1 rfl ?_
        refine ar_go M_Q_unknown 1 _ 21 _ [some (.ref 19), some (.int (nI col)), some (.int (nI rr))] _ [.int (nI rr), .ref 20] rfl ?_
        refine ar_aald M_Q_unknown rfl q2 (Or.inl rfl) (vp_in_nI (by omega) (by decide)) (by rw [nI_clamp (n := rr) (by omega)]; exact q3 rr (by omega)) ?_
        have hx1 := q5 rr (by omega)
        refine ar_go M_Q_unknown 1 _ 23 _ [some (.ref 19), some (.int (nI col)), some (.int (nI rr))] _ [.ref 19, .ref (ro rr)] rfl ?_
        refine ar_get M_Q_unknown rfl rfl q1 rfl ?_
        refine ar_lald M_Q_unknown rfl hx1 (vp_in_nI (by omega) (by decide)) ?_
        rw [nI_clamp (n := c) (by omega)]
        exact ar_R M_Q_unknown rfl rfl rfl rfl (⟨by unfold unk; rw [hu], rfl⟩)
      · exact absurd ((Decidable.not_not.mp (of_decide_eq_false z) : nI rr = -1)) (fun e => absurd (nI_pos (n := rr) (by omega)) (by rw [e]; decide))
theorem c_Q_fz_loop (X : am_X) (d : Nat) (h : am_H) {ro : Nat → Nat} {c fm col : Nat} {M : Nat → Nat → Nat} {uk : Nat → Option Nat} (hQ : isQ h ro c M uk) (hc : c < 17) (hcol : col < 17) : ∀ (n row : Nat), row + n = c → ar Pg X d n_Q_rowWithout0 2 [some (.ref 19), some (.int (nI fm)), some (.int (nI col)), some (.int (nI row))] [] h (fun rr h' => rr = some (.int (nI (fz M col n row))) ∧ h' = h) := by
  obtain ⟨q1, ⟨g, q2, q3⟩, q4, q5, q6, q7⟩ := hQ
  intro n
  induction n with
  | zero =>
    intro row hn
    have hn : row = c := by omega
    subst hn
    refine ar_go M_Q_rowWithout0 2 _ 4 _ [some (.ref 19), some (.int (nI fm)), some (.int (nI col)), some (.int (nI row))] _ [.ref 19, .int (nI row)] rfl ?_
    refine ar_get M_Q_rowWithout0 rfl rfl q1 rfl ?_
    refine ar_icmp M_Q_rowWithout0 rfl rfl (fun _ => ?_) (fun hc => ?_)
    · refine ar_go M_Q_rowWithout0 1 _ 30 _ [some (.ref 19), some (.int (nI fm)), some (.int (nI col)), some (.int (nI row))] _ [.int (nI row)] rfl ?_
      exact ar_R M_Q_rowWithout0 rfl rfl rfl rfl ⟨rfl, rfl⟩
    · have hc := c2_ge_f (a := row) (b := row) (by omega) (by omega) hc
      omega
  | succ n ih =>
    intro row hn
    refine ar_go M_Q_rowWithout0 2 _ 4 _ [some (.ref 19), some (.int (nI fm)), some (.int (nI col)), some (.int (nI row))] _ [.ref 19, .int (nI row)] rfl ?_
    refine ar_get M_Q_rowWithout0 rfl rfl q1 rfl ?_
    refine ar_icmp M_Q_rowWithout0 rfl rfl (fun hc => ?_) (fun hc => ?_)
    · have hc := c2_ge_t (a := row) (b := c) (by omega) (by omega) hc
      omega
    · have hc := c2_ge_f (a := row) (b := c) (by omega) (by omega) hc
      refine ar_go M_Q_rowWithout0 1 _ 11 _ [some (.ref 19), some (.int (nI fm)), some (.int (nI col)), some (.int (nI row))] _ [.ref 19] rfl ?_
      refine ar_get M_Q_rowWithout0 rfl rfl q1 rfl ?_
      refine ar_go M_Q_rowWithout0 1 _ 15 _ [some (.ref 19), some (.int (nI fm)), some (.int (nI col)), some (.int (nI row))] _ [.int (nI row), .ref 20] rfl ?_
      refine ar_aald M_Q_rowWithout0 rfl q2 (Or.inl rfl) (vp_in_nI (by omega) (by decide)) (by rw [nI_clamp (n := row) (by omega)]; exact q3 row (by omega)) ?_
      have hx1 := q5 row (by omega)
      refine ar_go M_Q_rowWithout0 1 _ 17 _ [some (.ref 19), some (.int (nI fm)), some (.int (nI col)), some (.int (nI row))] _ [.int (nI col), .ref (ro row)] rfl ?_
      refine ar_lald M_Q_rowWithout0 rfl hx1 (vp_in_nI (by omega) (by decide)) ?_
      rw [nI_clamp (n := col) (by omega)]
      have hcj := q6 row (by omega) col (by omega)
      refine ar_go M_Q_rowWithout0 1 _ 19 _ [some (.ref 19), some (.int (nI fm)), some (.int (nI col)), some (.int (nI row))] _ [.long (lN 0), .long (lN ((M row) col))] rfl ?_
      refine ar_go M_Q_rowWithout0 1 _ 20 _ [some (.ref 19), some (.int (nI fm)), some (.int (nI col)), some (.int (nI row))] _ [.int (lg_cmp (lN ((M row) col)) (lN 0))] rfl ?_
      refine ar_top (w := .int (if M row col = 0 then 0 else 1)) (congrArg Value.int (lcmp0 hcj)) ?_
      by_cases h0 : M row col = 0
      · rw [if_pos h0]
        refine ar_if M_Q_rowWithout0 rfl rfl (fun z => absurd z (by decide)) (fun _ => ?_)
        refine ar_go M_Q_rowWithout0 1 _ 26 _ [some (.ref 19), some (.int (nI fm)), some (.int (nI col)), some (.int (nI row + Int32.ofInt 1))] _ [] rfl ?_
        rw [show nI row + Int32.ofInt 1 = nI (row + 1) from nI_add row 1]
        refine ar_go M_Q_rowWithout0 1 _ 2 _ [some (.ref 19), some (.int (nI fm)), some (.int (nI col)), some (.int (nI (row + 1)))] _ [] rfl ?_
        rw [fz, if_pos h0]
        exact ih (row + 1) (by omega)
      · rw [if_neg h0]
        refine ar_if M_Q_rowWithout0 rfl rfl (fun _ => ?_) (fun z => absurd z (by decide))
        rw [fz, if_neg h0]
        refine ar_go M_Q_rowWithout0 1 _ 30 _ [some (.ref 19), some (.int (nI fm)), some (.int (nI col)), some (.int (nI row))] _ [.int (nI row)] rfl ?_
        exact ar_R M_Q_rowWithout0 rfl rfl rfl rfl (⟨rfl, rfl⟩)
theorem c_Q_rowWithout0 (X : am_X) (d : Nat) (h : am_H) {ro : Nat → Nat} {c fm col : Nat} {M : Nat → Nat → Nat} {uk : Nat → Option Nat} (hQ : isQ h ro c M uk) (hc : c < 17) (hcol : col < 17) (hfm : fm ≤ c) : ar Pg X d n_Q_rowWithout0 0 [some (.ref 19), some (.int (nI fm)), some (.int (nI col)), none] [] h (fun rr h' => rr = some (.int (nI (fz M col (c - fm) fm))) ∧ h' = h) := by
  refine ar_go M_Q_rowWithout0 2 _ 2 _ [some (.ref 19), some (.int (nI fm)), some (.int (nI col)), some (.int (nI fm))] _ [] rfl ?_
  exact c_Q_fz_loop X d h hQ hc hcol (c - fm) fm (by omega)
theorem c_Q_rs_loop (X : am_X) (d : Nat) (h : am_H) {ro : Nat → Nat} {c fm : Nat} {M : Nat → Nat → Nat} {uk : Nat → Option Nat} (hQ : isQ h ro c M uk) (hc : c < 17) : ∀ (n row : Nat), row + n = c → ar Pg X d n_Q_rightSidesAre0 2 [some (.ref 19), some (.int (nI fm)), some (.int (nI row))] [] h (fun rr h' => rr = some (.int (bi (rs0 M c n row))) ∧ h' = h) := by
  obtain ⟨q1, ⟨g, q2, q3⟩, q4, q5, q6, q7⟩ := hQ
  intro n
  induction n with
  | zero =>
    intro row hn
    have hn : row = c := by omega
    subst hn
    refine ar_go M_Q_rightSidesAre0 2 _ 4 _ [some (.ref 19), some (.int (nI fm)), some (.int (nI row))] _ [.ref 19, .int (nI row)] rfl ?_
    refine ar_get M_Q_rightSidesAre0 rfl rfl q1 rfl ?_
    refine ar_icmp M_Q_rightSidesAre0 rfl rfl (fun _ => ?_) (fun hc => ?_)
    · refine ar_go M_Q_rightSidesAre0 1 _ 35 _ [some (.ref 19), some (.int (nI fm)), some (.int (nI row))] _ [.int (nI 1)] rfl ?_
      exact ar_zret M_Q_rightSidesAre0 rfl rfl (Or.inr rfl) ⟨rfl, rfl⟩
    · have hc := c2_ge_f (a := row) (b := row) (by omega) (by omega) hc
      omega
  | succ n ih =>
    intro row hn
    refine ar_go M_Q_rightSidesAre0 2 _ 4 _ [some (.ref 19), some (.int (nI fm)), some (.int (nI row))] _ [.ref 19, .int (nI row)] rfl ?_
    refine ar_get M_Q_rightSidesAre0 rfl rfl q1 rfl ?_
    refine ar_icmp M_Q_rightSidesAre0 rfl rfl (fun hc => ?_) (fun hc => ?_)
    · have hc := c2_ge_t (a := row) (b := c) (by omega) (by omega) hc
      omega
    · have hc := c2_ge_f (a := row) (b := c) (by omega) (by omega) hc
      refine ar_go M_Q_rightSidesAre0 1 _ 11 _ [some (.ref 19), some (.int (nI fm)), some (.int (nI row))] _ [.ref 19] rfl ?_
      refine ar_get M_Q_rightSidesAre0 rfl rfl q1 rfl ?_
      refine ar_go M_Q_rightSidesAre0 1 _ 15 _ [some (.ref 19), some (.int (nI fm)), some (.int (nI row))] _ [.int (nI row), .ref 20] rfl ?_
      refine ar_aald M_Q_rightSidesAre0 rfl q2 (Or.inl rfl) (vp_in_nI (by omega) (by decide)) (by rw [nI_clamp (n := row) (by omega)]; exact q3 row (by omega)) ?_
      have hx1 := q5 row (by omega)
      refine ar_go M_Q_rightSidesAre0 1 _ 17 _ [some (.ref 19), some (.int (nI fm)), some (.int (nI row))] _ [.ref 19, .ref (ro row)] rfl ?_
      refine ar_get M_Q_rightSidesAre0 rfl rfl q1 rfl ?_
      refine ar_lald M_Q_rightSidesAre0 rfl hx1 (vp_in_nI (by omega) (by decide)) ?_
      rw [nI_clamp (n := c) (by omega)]
      have hcj := q6 row (by omega) c (by omega)
      refine ar_go M_Q_rightSidesAre0 1 _ 22 _ [some (.ref 19), some (.int (nI fm)), some (.int (nI row))] _ [.long (lN 0), .long (lN ((M row) c))] rfl ?_
      refine ar_go M_Q_rightSidesAre0 1 _ 23 _ [some (.ref 19), some (.int (nI fm)), some (.int (nI row))] _ [.int (lg_cmp (lN ((M row) c)) (lN 0))] rfl ?_
      refine ar_top (w := .int (if M row c = 0 then 0 else 1)) (congrArg Value.int (lcmp0 hcj)) ?_
      by_cases h0 : M row c = 0
      · rw [if_pos h0]
        refine ar_if M_Q_rightSidesAre0 rfl rfl (fun _ => ?_) (fun z => absurd z (by decide))
        refine ar_go M_Q_rightSidesAre0 1 _ 31 _ [some (.ref 19), some (.int (nI fm)), some (.int (nI row + Int32.ofInt 1))] _ [] rfl ?_
        rw [show nI row + Int32.ofInt 1 = nI (row + 1) from nI_add row 1]
        refine ar_go M_Q_rightSidesAre0 1 _ 2 _ [some (.ref 19), some (.int (nI fm)), some (.int (nI (row + 1)))] _ [] rfl ?_
        rw [rs0, if_pos h0]
        exact ih (row + 1) (by omega)
      · rw [if_neg h0]
        refine ar_if M_Q_rightSidesAre0 rfl rfl (fun z => absurd z (by decide)) (fun _ => ?_)
        rw [rs0, if_neg h0]
        refine ar_go M_Q_rightSidesAre0 1 _ 27 _ [some (.ref 19), some (.int (nI fm)), some (.int (nI row))] _ [.int (nI 0)] rfl ?_
        exact ar_zret M_Q_rightSidesAre0 rfl rfl (Or.inl rfl) (⟨rfl, rfl⟩)
theorem c_Q_rightSidesAre0 (X : am_X) (d : Nat) (h : am_H) {ro : Nat → Nat} {c fm : Nat} {M : Nat → Nat → Nat} {uk : Nat → Option Nat} (hQ : isQ h ro c M uk) (hc : c < 17) (hfm : fm ≤ c) : ar Pg X d n_Q_rightSidesAre0 0 [some (.ref 19), some (.int (nI fm)), none] [] h (fun rr h' => rr = some (.int (bi (rs0 M c (c - fm) fm))) ∧ h' = h) := by
  refine ar_go M_Q_rightSidesAre0 2 _ 2 _ [some (.ref 19), some (.int (nI fm)), some (.int (nI fm))] _ [] rfl ?_
  exact c_Q_rs_loop X d h hQ hc (c - fm) fm (by omega)
theorem updM_updM (M : Nat → Nat → Nat) (i : Nat) (A B : Nat → Nat) : updM (updM M i A) i B = updM M i B := by
  funext a
  unfold updM
  split <;> rfl
theorem updM_self (M : Nat → Nat → Nat) (i : Nat) : updM M i (M i) = M := by
  funext a
  unfold updM
  split
  · subst_vars; rfl
  · rfl
theorem c_Q_sc_loop (X : am_X) (d : Nat) (h : am_H) {ro : Nat → Nat} {c row fm s : Nat} {M : Nat → Nat → Nat} {uk : Nat → Option Nat} (hc : c < 17) (hrow : row < 16) (hfm : fm ≤ c) (hs : s < 2147483648) (hM : ∀ i, i < 16 → lt17 (M i)) : ∀ (n i : Nat) (h1 : am_H), c + 1 - fm - i < n → i ≤ c + 1 - fm → isQ h1 ro c (updM M row (sc1 (M row) s fm i)) uk → fr eqL h h1 → ar Pg X (d + 1) n_Q_scaleRow 11 [some (.ref 19), some (.int (nI row)), some (.int (nI fm)), some (.long (lN s)), none, some (.ref (ro row)), some (.int (nI (fm + i)))] [] h1 (fun rr h' => rr = none ∧ fr eqL h h' ∧ isQ h' ro c (updM M row (sc1 (M row) s fm (c + 1 - fm))) uk) := by
  intro n
  induction n with
  | zero => intro i h1 hn; omega
  | succ n ih =>
    intro i h1 hn hi hQ hF
    have hQ0 := hQ
    obtain ⟨q1, ⟨g, q2, q3⟩, q4, q5, q6, q7⟩ := hQ0
    have hrb := q4.1 row hrow
    have hx := q5 row hrow
    rw [updM_s] at hx
    refine ar_go M_Q_scaleRow 2 _ 14 _ [some (.ref 19), some (.int (nI row)), some (.int (nI fm)), some (.long (lN s)), none, some (.ref (ro row)), some (.int (nI (fm + i)))] _ [.ref 19, .int (nI (fm + i))] rfl ?_
    refine ar_get M_Q_scaleRow rfl rfl q1 rfl ?_
    refine ar_icmp M_Q_scaleRow rfl rfl (fun hc => ?_) (fun hc => ?_)
    · have hc := c2_gt_t (a := (fm + i)) (b := c) (by omega) (by omega) hc
      have hi2 : i = c + 1 - fm := by omega
      rw [hi2] at hQ
      exact ar_R M_Q_scaleRow rfl rfl rfl rfl (⟨rfl, hF, hQ⟩)
    · have hc := c2_gt_f (a := (fm + i)) (b := c) (by omega) (by omega) hc
      have hxx := sc1_17 (hM row hrow) s fm i (fm + i) (by omega)
      refine ar_go M_Q_scaleRow 4 _ 28 _ [some (.ref 19), some (.int (nI row)), some (.int (nI fm)), some (.long (lN s)), none, some (.ref (ro row)), some (.int (nI (fm + i)))] _ [.int (nI (fm + i)), .ref (ro row), .int (nI (fm + i)), .ref (ro row)] rfl ?_
      refine ar_lald M_Q_scaleRow rfl hx (vp_in_nI (by omega) (by decide)) ?_
      rw [nI_clamp (n := (fm + i)) (by omega)]
      refine ar_go M_Q_scaleRow 1 _ 30 _ [some (.ref 19), some (.int (nI row)), some (.int (nI fm)), some (.long (lN s)), none, some (.ref (ro row)), some (.int (nI (fm + i)))] _ [.long (lN s), .long (lN ((sc1 (M row) s fm i) (fm + i))), .int (nI (fm + i)), .ref (ro row)] rfl ?_
      refine ar_CS M_Q_scaleRow rfl rfl (Nat.le_of_ble_eq_true rfl) rfl rfl (Nat.le_of_ble_eq_true rfl) M_F_times (Nat.le_of_ble_eq_true rfl) (c_F_times X d _ (by omega) hs) (fun r1 h1 hq => ?_)
      obtain ⟨rfl, rfl⟩ := hq
      refine ⟨rfl, ?_⟩
      show ar Pg _ _ _ 33 [some (.ref 19), some (.int (nI row)), some (.int (nI fm)), some (.long (lN s)), none, some (.ref (ro row)), some (.int (nI (fm + i)))] [.long (lN (sc1 (M row) s fm i (fm + i) * s % 2147483647)), .int (nI (fm + i)), .ref (ro row)] _ _
      refine ar_last M_Q_scaleRow rfl hx (vp_in_nI (by omega) (by decide)) (fun h2 hf he => ?_)
      rw [nI_clamp (n := (fm + i)) (by omega)] at he
      rw [updL_lN] at he
      have q1 := hf.at q1 (by simp only [List.mem_cons, List.not_mem_nil, or_false]; omega)
      have hx : h2[(ro row)]? = some (.inl (1, 17, .inr (.inl (fun z9 => lN ((updN (sc1 (M row) s fm i) (fm + i) (sc1 (M row) s fm i (fm + i) * s % 2147483647)) z9))))) := he
      refine ar_go M_Q_scaleRow 1 _ 37 _ [some (.ref 19), some (.int (nI row)), some (.int (nI fm)), some (.long (lN s)), none, some (.ref (ro row)), some (.int (nI (fm + i) + Int32.ofInt 1))] _ [] rfl ?_
      rw [show nI (fm + i) + Int32.ofInt 1 = nI ((fm + i) + 1) from nI_add (fm + i) 1]
      refine ar_go M_Q_scaleRow 1 _ 11 _ [some (.ref 19), some (.int (nI row)), some (.int (nI fm)), some (.long (lN s)), none, some (.ref (ro row)), some (.int (nI ((fm + i) + 1)))] _ [] rfl ?_
      have hQ2 := hQ.set hrow hf hx (sc1_17 (hM row hrow) s fm (i + 1))
      rw [updM_updM] at hQ2
      exact ih (i + 1) h2 (by omega) (by omega) hQ2 (hF.tr hf (by simp) (eq_sub q4 hrow))
theorem c_Q_scaleRow (X : am_X) (d : Nat) (h : am_H) {ro : Nat → Nat} {c row fm s : Nat} {M : Nat → Nat → Nat} {uk : Nat → Option Nat} (hQ : isQ h ro c M uk) (hc : c < 17) (hrow : row < 16) (hfm : fm ≤ c) (hs : s < 2147483648) : ar Pg X (d + 1) n_Q_scaleRow 0 [some (.ref 19), some (.int (nI row)), some (.int (nI fm)), some (.long (lN s)), none, none, none] [] h (fun rr h' => rr = none ∧ fr eqL h h' ∧ isQ h' ro c (updM M row (sc1 (M row) s fm (c + 1 - fm))) uk) := by
  have hQ0 := hQ
  obtain ⟨q1, ⟨g, q2, q3⟩, q4, q5, q6, q7⟩ := hQ
  refine ar_go M_Q_scaleRow 1 _ 1 _ [some (.ref 19), some (.int (nI row)), some (.int (nI fm)), some (.long (lN s)), none, none, none] _ [.ref 19] rfl ?_
  refine ar_get M_Q_scaleRow rfl rfl q1 rfl ?_
  refine ar_go M_Q_scaleRow 1 _ 5 _ [some (.ref 19), some (.int (nI row)), some (.int (nI fm)), some (.long (lN s)), none, none, none] _ [.int (nI row), .ref 20] rfl ?_
  refine ar_aald M_Q_scaleRow rfl q2 (Or.inl rfl) (vp_in_nI (by omega) (by decide)) (by rw [nI_clamp (n := row) (by omega)]; exact q3 row (by omega)) ?_
  have hx1 := q5 row (by omega)
  refine ar_go M_Q_scaleRow 3 _ 11 _ [some (.ref 19), some (.int (nI row)), some (.int (nI fm)), some (.long (lN s)), none, some (.ref (ro row)), some (.int (nI fm))] _ [] rfl ?_
  have := c_Q_sc_loop X d h (row := row) (fm := fm) (s := s) hc hrow hfm hs q6 (c + 2) 0 h (by omega) (by omega) (by rw [show sc1 (M row) s fm 0 = M row from rfl, updM_self]; exact hQ0) (fr.rf _ _)
  exact this
end
section
/-! Equations: swapRows, clearColumn, setRow -/
theorem swN_isQ {h h3 : am_H} {ro : Nat → Nat} {c a b : Nat} {M : Nat → Nat → Nat} {uk : Nat → Option Nat} {g : Nat → Option Nat} (hQ : isQ h ro c M uk) (ha : a < 16) (hb : b < 16) (hF : fr [20] h h3) (he : h3[20]? = some (.inl (3, 16, .inr (.inr (.inr (.inr (va_up (va_up g a (some (ro b))) b (some (ro a))))))))) (hg : ∀ i, i < 16 → g i = some (ro i)) : isQ h3 (swN ro a b) c (swM M a b) uk := by
  obtain ⟨q1, -, q4, q5, q6, q7⟩ := hQ
  have row : ∀ i, i < 16 → h3[ro i]? = some (.inl (1, 17, .inr (.inl (fun z9 => lN (M i z9))))) := fun i hi => hF.at (q5 i hi) (by have := q4.1 i hi; simp; omega)
  refine ⟨hF.at q1 (by simp), ⟨_, he, fun i hi => ?_⟩, swN_ok q4 ha hb, fun i hi => ?_, fun i hi => ?_, hF.at q7 (by simp)⟩
  · unfold swN
    by_cases e : i = b
    · subst e; rw [va_up_self, if_pos rfl]
    · rw [va_up_ne _ _ e, if_neg e]
      by_cases e2 : i = a
      · subst e2; rw [va_up_self, if_pos rfl]
      · rw [va_up_ne _ _ e2, if_neg e2, hg i hi]
  · unfold swN swM
    by_cases e : i = b
    · rw [if_pos e, if_pos e]; exact row a ha
    · rw [if_neg e, if_neg e]
      by_cases e2 : i = a
      · rw [if_pos e2, if_pos e2]; exact row b hb
      · rw [if_neg e2, if_neg e2]; exact row i hi
  · unfold swM
    split
    · exact q6 a ha
    · split
      · exact q6 b hb
      · exact q6 i hi
theorem c_Q_swapRows (X : am_X) (d : Nat) (h : am_H) {ro : Nat → Nat} {c a b : Nat} {M : Nat → Nat → Nat} {uk : Nat → Option Nat} (hQ : isQ h ro c M uk) (ha : a < 16) (hb : b < 16) : ar Pg X d n_Q_swapRows 0 [some (.ref 19), some (.int (nI a)), some (.int (nI b)), none] [] h (fun rr h' => rr = none ∧ fr eqL h h' ∧ isQ h' (swN ro a b) c (swM M a b) uk) := by
  have hQ0 := hQ
  obtain ⟨q1, ⟨g, q2, q3⟩, q4, q5, q6, q7⟩ := hQ
  have hab := q4.1 a ha
  have hbb := q4.1 b hb
  refine ar_go M_Q_swapRows 1 _ 1 _ [some (.ref 19), some (.int (nI a)), some (.int (nI b)), none] _ [.ref 19] rfl ?_
  refine ar_get M_Q_swapRows rfl rfl q1 rfl ?_
  refine ar_go M_Q_swapRows 1 _ 5 _ [some (.ref 19), some (.int (nI a)), some (.int (nI b)), none] _ [.int (nI a), .ref 20] rfl ?_
  refine ar_aald M_Q_swapRows rfl q2 (Or.inl rfl) (vp_in_nI (by omega) (by decide)) (by rw [nI_clamp (n := a) (by omega)]; exact q3 a (by omega)) ?_
  have hx1 := q5 a (by omega)
  refine ar_go M_Q_swapRows 2 _ 8 _ [some (.ref 19), some (.int (nI a)), some (.int (nI b)), some (.ref (ro a))] _ [.ref 19] rfl ?_
  refine ar_get M_Q_swapRows rfl rfl q1 rfl ?_
  refine ar_go M_Q_swapRows 2 _ 13 _ [some (.ref 19), some (.int (nI a)), some (.int (nI b)), some (.ref (ro a))] _ [.ref 19, .int (nI a), .ref 20] rfl ?_
  refine ar_get M_Q_swapRows rfl rfl q1 rfl ?_
  refine ar_go M_Q_swapRows 1 _ 17 _ [some (.ref 19), some (.int (nI a)), some (.int (nI b)), some (.ref (ro a))] _ [.int (nI b), .ref 20, .int (nI a), .ref 20] rfl ?_
  refine ar_aald M_Q_swapRows rfl q2 (Or.inl rfl) (vp_in_nI (by omega) (by decide)) (by rw [nI_clamp (n := b) (by omega)]; exact q3 b (by omega)) ?_
  have hx2 := q5 b (by omega)
  refine ar_aast M_Q_swapRows rfl q2 hx2 (vp_in_nI ha (by decide)) (fun h2 hf he => ?_)
  rw [nI_clamp (n := a) (by omega)] at he
  have k1 := hf
  have q1 := hf.at q1 (by simp)
  have hx1 := hf.at hx1 (by simp; omega)
  refine ar_go M_Q_swapRows 1 _ 20 _ [some (.ref 19), some (.int (nI a)), some (.int (nI b)), some (.ref (ro a))] _ [.ref 19] rfl ?_
  refine ar_get M_Q_swapRows rfl rfl q1 rfl ?_
  refine ar_go M_Q_swapRows 2 _ 25 _ [some (.ref 19), some (.int (nI a)), some (.int (nI b)), some (.ref (ro a))] _ [.ref (ro a), .int (nI b), .ref 20] rfl ?_
  refine ar_aast M_Q_swapRows rfl he hx1 (vp_in_nI hb (by decide)) (fun h3 hf he2 => ?_)
  rw [nI_clamp (n := b) (by omega)] at he2
  have hF : fr [20] h h3 := k1.tr hf (by simp) (by simp)
  exact ar_R M_Q_swapRows rfl rfl rfl rfl (⟨rfl, hF.mono (by intro k hk; rw [List.mem_singleton] at hk; rw [mem_eqL, hk]; omega), swN_isQ hQ0 ha hb hF he2 q3⟩)
theorem c_Q_c1_loop (X : am_X) (d : Nat) (h : am_H) {ro : Nat → Nat} {c us col row mu : Nat} {M : Nat → Nat → Nat} {uk : Nat → Option Nat} {Q : Option Value → am_H → Prop} (hc : c < 17) (hus : us < 16) (hrow : row < 16) (hne : us ≠ row) (hcol : col ≤ c) (hmu : mu < 2147483647) (hmu0 : ¬ mu = 0) (hM : ∀ i, i < 16 → lt17 (M i))
    (K : ∀ h1 : am_H, isQ h1 ro c (updM M row (cl1 (M row) (M us) mu col (c + 1 - col))) uk → fr eqL h h1 → ar Pg X (d + 1) n_Q_clearColumn 91 [some (.ref 19), some (.int (nI us)), some (.int (nI col)), some (.ref (ro us)), some (.int (nI row)), some (.ref (ro row)), some (.long (lN mu)), none, some (.int (nI (col + (c + 1 - col))))] [] h1 Q) :
    ∀ (n i : Nat) (h1 : am_H), c + 1 - col - i < n → i ≤ c + 1 - col → isQ h1 ro c (updM M row (cl1 (M row) (M us) mu col i)) uk → fr eqL h h1 → ar Pg X (d + 1) n_Q_clearColumn 47 [some (.ref 19), some (.int (nI us)), some (.int (nI col)), some (.ref (ro us)), some (.int (nI row)), some (.ref (ro row)), some (.long (lN mu)), none, some (.int (nI (col + i)))] [] h1 Q := by
  intro n
  induction n with
  | zero => intro i h1 hn; omega
  | succ n ih =>
    intro i h1 hn hi hQ hF
    have hQ0 := hQ
    obtain ⟨q1, ⟨g, q2, q3⟩, q4, q5, q6, q7⟩ := hQ0
    have hrb := q4.1 row hrow
    have hx := q5 row hrow
    rw [updM_s] at hx
    have hu := q5 us hus
    rw [updM_n _ _ hne] at hu
    refine ar_go M_Q_clearColumn 3 _ 51 _ [some (.ref 19), some (.int (nI us)), some (.int (nI col)), some (.ref (ro us)), some (.int (nI row)), some (.ref (ro row)), some (.long (lN mu)), none, some (.int (nI (col + i)))] _ [.int (lg_cmp (lN mu) (lN 0))] rfl ?_
    refine ar_top (w := .int 1) (congrArg Value.int ((lcmp0 hmu).trans (if_neg hmu0))) ?_
    refine ar_if M_Q_clearColumn rfl rfl (fun z => absurd z (by decide)) (fun _ => ?_)
    refine ar_go M_Q_clearColumn 2 _ 57 _ [some (.ref 19), some (.int (nI us)), some (.int (nI col)), some (.ref (ro us)), some (.int (nI row)), some (.ref (ro row)), some (.long (lN mu)), none, some (.int (nI (col + i)))] _ [.ref 19, .int (nI (col + i))] rfl ?_
    refine ar_get M_Q_clearColumn rfl rfl q1 rfl ?_
    refine ar_icmp M_Q_clearColumn rfl rfl (fun hc => ?_) (fun hc => ?_)
    · have hc := c2_gt_t (a := (col + i)) (b := c) (by omega) (by omega) hc
      have hi2 : i = c + 1 - col := by omega
      rw [hi2] at hQ ⊢
      exact K h1 hQ hF
    · have hc := c2_gt_f (a := (col + i)) (b := c) (by omega) (by omega) hc
      have hxx := cl1_17 (hM row hrow) (M us) mu col i (col + i) (by omega)
      have huu := hM us hus (col + i) (by omega)
      refine ar_go M_Q_clearColumn 4 _ 71 _ [some (.ref 19), some (.int (nI us)), some (.int (nI col)), some (.ref (ro us)), some (.int (nI row)), some (.ref (ro row)), some (.long (lN mu)), none, some (.int (nI (col + i)))] _ [.int (nI (col + i)), .ref (ro row), .int (nI (col + i)), .ref (ro row)] rfl ?_
      refine ar_lald M_Q_clearColumn rfl hx (vp_in_nI (by omega) (by decide)) ?_
      rw [nI_clamp (n := (col + i)) (by omega)]
      refine ar_go M_Q_clearColumn 3 _ 77 _ [some (.ref 19), some (.int (nI us)), some (.int (nI col)), some (.ref (ro us)), some (.int (nI row)), some (.ref (ro row)), some (.long (lN mu)), none, some (.int (nI (col + i)))] _ [.int (nI (col + i)), .ref (ro us), .long (lN mu), .long (lN ((cl1 (M row) (M us) mu col i) (col + i))), .int (nI (col + i)), .ref (ro row)] rfl ?_
      refine ar_lald M_Q_clearColumn rfl hu (vp_in_nI (by omega) (by decide)) ?_
      rw [nI_clamp (n := (col + i)) (by omega)]
      refine ar_CS M_Q_clearColumn rfl rfl (Nat.le_of_ble_eq_true rfl) rfl rfl (Nat.le_of_ble_eq_true rfl) M_F_times (Nat.le_of_ble_eq_true rfl) (c_F_times X d _ (by omega) (by omega)) (fun r1 h1 hq => ?_)
      obtain ⟨rfl, rfl⟩ := hq
      refine ⟨rfl, ?_⟩
      have hmm : mu * M us (col + i) % 2147483647 < 2147483647 := Nat.mod_lt _ (by decide)
      show ar Pg _ _ _ 81 [some (.ref 19), some (.int (nI us)), some (.int (nI col)), some (.ref (ro us)), some (.int (nI row)), some (.ref (ro row)), some (.long (lN mu)), none, some (.int (nI (col + i)))] [.long (lN (mu * M us (col + i) % 2147483647)), .long (lN ((cl1 (M row) (M us) mu col i) (col + i))), .int (nI (col + i)), .ref (ro row)] _ _
      refine ar_CS M_Q_clearColumn rfl rfl (Nat.le_of_ble_eq_true rfl) rfl rfl (Nat.le_of_ble_eq_true rfl) M_F_minus (Nat.le_of_ble_eq_true rfl) (c_F_minus X d _ (by omega) (by omega) (by omega)) (fun r1 h1 hq => ?_)
      obtain ⟨rfl, rfl⟩ := hq
      refine ⟨rfl, ?_⟩
      show ar Pg _ _ _ 84 [some (.ref 19), some (.int (nI us)), some (.int (nI col)), some (.ref (ro us)), some (.int (nI row)), some (.ref (ro row)), some (.long (lN mu)), none, some (.int (nI (col + i)))] [.long (lN ((cl1 (M row) (M us) mu col i (col + i) + 2147483647 - mu * M us (col + i) % 2147483647) % 2147483647)), .int (nI (col + i)), .ref (ro row)] _ _
      refine ar_last M_Q_clearColumn rfl hx (vp_in_nI (by omega) (by decide)) (fun h2 hf he => ?_)
      rw [nI_clamp (n := (col + i)) (by omega)] at he
      rw [updL_lN] at he
      have hx : h2[(ro row)]? = some (.inl (1, 17, .inr (.inl (fun z9 => lN ((updN (cl1 (M row) (M us) mu col i) (col + i) ((cl1 (M row) (M us) mu col i (col + i) + 2147483647 - mu * M us (col + i) % 2147483647) % 2147483647)) z9))))) := he
      refine ar_go M_Q_clearColumn 1 _ 88 _ [some (.ref 19), some (.int (nI us)), some (.int (nI col)), some (.ref (ro us)), some (.int (nI row)), some (.ref (ro row)), some (.long (lN mu)), none, some (.int (nI (col + i) + Int32.ofInt 1))] _ [] rfl ?_
      rw [show nI (col + i) + Int32.ofInt 1 = nI ((col + i) + 1) from nI_add (col + i) 1]
      refine ar_go M_Q_clearColumn 1 _ 47 _ [some (.ref 19), some (.int (nI us)), some (.int (nI col)), some (.ref (ro us)), some (.int (nI row)), some (.ref (ro row)), some (.long (lN mu)), none, some (.int (nI ((col + i) + 1)))] _ [] rfl ?_
      have hQ2 := hQ.set hrow hf hx (cl1_17 (hM row hrow) (M us) mu col (i + 1))
      rw [updM_updM] at hQ2
      exact ih (i + 1) h2 (by omega) (by omega) hQ2 (hF.tr hf (by simp) (eq_sub q4 hrow))
theorem c_Q_c2_loop (X : am_X) (d : Nat) (h : am_H) {ro : Nat → Nat} {c us col : Nat} {M : Nat → Nat → Nat} {uk : Nat → Option Nat} (hc : c < 17) (hus : us < 16) (hcol : col ≤ c) : ∀ (n r : Nat) (h1 : am_H) (x5 x6 x8 : Option Value), c - r < n → r ≤ c → isQ h1 ro c (clr M us col c r) uk → fr eqL h h1 → ar Pg X (d + 1) n_Q_clearColumn 10 [some (.ref 19), some (.int (nI us)), some (.int (nI col)), some (.ref (ro us)), some (.int (nI r)), x5, x6, none, x8] [] h1 (fun rr h' => rr = none ∧ fr eqL h h' ∧ isQ h' ro c (clr M us col c c) uk) := by
  intro n
  induction n with
  | zero => intro r h1 x5 x6 x8 hn; omega
  | succ n ih =>
    intro r h1 x5 x6 x8 hn hr hQ hF
    have hQ0 := hQ
    obtain ⟨q1, ⟨g, q2, q3⟩, q4, q5, q6, q7⟩ := hQ0
    refine ar_go M_Q_clearColumn 2 _ 13 _ [some (.ref 19), some (.int (nI us)), some (.int (nI col)), some (.ref (ro us)), some (.int (nI r)), x5, x6, none, x8] _ [.ref 19, .int (nI r)] rfl ?_
    refine ar_get M_Q_clearColumn rfl rfl q1 rfl ?_
    refine ar_icmp M_Q_clearColumn rfl rfl (fun hc1 => ?_) (fun hc1 => ?_)
    · have hc1 := c2_ge_t (a := r) (b := c) (by omega) (by omega) hc1
      have hi2 : r = c := by omega
      rw [hi2] at hQ
      exact ar_R M_Q_clearColumn rfl rfl rfl rfl (⟨rfl, hF, hQ⟩)
    · have hc1 := c2_ge_f (a := r) (b := c) (by omega) (by omega) hc1
      refine ar_go M_Q_clearColumn 1 _ 20 _ [some (.ref 19), some (.int (nI us)), some (.int (nI col)), some (.ref (ro us)), some (.int (nI r)), x5, x6, none, x8] _ [.ref 19] rfl ?_
      refine ar_get M_Q_clearColumn rfl rfl q1 rfl ?_
      refine ar_go M_Q_clearColumn 1 _ 25 _ [some (.ref 19), some (.int (nI us)), some (.int (nI col)), some (.ref (ro us)), some (.int (nI r)), x5, x6, none, x8] _ [.int (nI r), .ref 20] rfl ?_
      refine ar_aald M_Q_clearColumn rfl q2 (Or.inl rfl) (vp_in_nI (by omega) (by decide)) (by rw [nI_clamp (n := r) (by omega)]; exact q3 r (by omega)) ?_
      have hx1 := q5 r (by omega)
      refine ar_go M_Q_clearColumn 3 _ 31 _ [some (.ref 19), some (.int (nI us)), some (.int (nI col)), some (.ref (ro us)), some (.int (nI r)), some (.ref (ro r)), x6, none, x8] _ [.int (nI us), .int (nI r)] rfl ?_
      refine ar_icmp M_Q_clearColumn rfl rfl (fun hc2 => ?_) (fun hc2 => ?_)
      · have hc2 := c2_ne_t (a := r) (b := us) (by omega) (by omega) hc2
        have hcl : clr M us col c (r + 1) = if clr M us col c r r col = 0 then clr M us col c r else updM (clr M us col c r) r (cl1 (clr M us col c r r) (clr M us col c r us) (clr M us col c r r col) col (c + 1 - col)) := by rw [clr, if_neg hc2]
        have hcj := q6 r (by omega) col (by omega)
        refine ar_go M_Q_clearColumn 2 _ 41 _ [some (.ref 19), some (.int (nI us)), some (.int (nI col)), some (.ref (ro us)), some (.int (nI r)), some (.ref (ro r)), x6, none, x8] _ [.int (nI col), .ref (ro r)] rfl ?_
        refine ar_lald M_Q_clearColumn rfl hx1 (vp_in_nI (by omega) (by decide)) ?_
        rw [nI_clamp (n := col) (by omega)]
        refine ar_go M_Q_clearColumn 3 _ 47 _ [some (.ref 19), some (.int (nI us)), some (.int (nI col)), some (.ref (ro us)), some (.int (nI r)), some (.ref (ro r)), some (.long (lN (((clr M us col c r) r) col))), none, some (.int (nI col))] _ [] rfl ?_
        by_cases h0 : clr M us col c r r col = 0
        · refine ar_go M_Q_clearColumn 3 _ 51 _ [some (.ref 19), some (.int (nI us)), some (.int (nI col)), some (.ref (ro us)), some (.int (nI r)), some (.ref (ro r)), some (.long (lN (((clr M us col c r) r) col))), none, some (.int (nI col))] _ [.int (lg_cmp (lN (((clr M us col c r) r) col)) (lN 0))] rfl ?_
          refine ar_top (w := .int 0) (congrArg Value.int ((lcmp0 hcj).trans (if_pos h0))) ?_
          refine ar_if M_Q_clearColumn rfl rfl (fun _ => ?_) (fun z => absurd z (by decide))
          refine ar_go M_Q_clearColumn 1 _ 94 _ [some (.ref 19), some (.int (nI us)), some (.int (nI col)), some (.ref (ro us)), some (.int (nI r + Int32.ofInt 1)), some (.ref (ro r)), some (.long (lN (((clr M us col c r) r) col))), none, some (.int (nI col))] _ [] rfl ?_
          rw [show nI r + Int32.ofInt 1 = nI (r + 1) from nI_add r 1]
          refine ar_go M_Q_clearColumn 1 _ 10 _ [some (.ref 19), some (.int (nI us)), some (.int (nI col)), some (.ref (ro us)), some (.int (nI (r + 1))), some (.ref (ro r)), some (.long (lN (((clr M us col c r) r) col))), none, some (.int (nI col))] _ [] rfl ?_
          rw [if_pos h0] at hcl
          exact ih (r + 1) h1 _ _ _ (by omega) (by omega) (by rw [hcl]; exact hQ) hF
        · rw [if_neg h0] at hcl
          refine c_Q_c1_loop X d h (us := us) (M := clr M us col c r) hc hus (by omega) (fun z => hc2 z.symm) hcol hcj h0 q6 ?_ (c + 2) 0 h1 (by omega) (by omega) (by rw [show cl1 (clr M us col c r r) (clr M us col c r us) (clr M us col c r r col) col 0 = clr M us col c r r from rfl, updM_self]; exact hQ) hF
          intro h2 hQ2 hF2
          refine ar_go M_Q_clearColumn 1 _ 94 _ [some (.ref 19), some (.int (nI us)), some (.int (nI col)), some (.ref (ro us)), some (.int (nI r + Int32.ofInt 1)), some (.ref (ro r)), some (.long (lN (((clr M us col c r) r) col))), none, some (.int (nI (col + (c + 1 - col))))] _ [] rfl ?_
          rw [show nI r + Int32.ofInt 1 = nI (r + 1) from nI_add r 1]
          refine ar_go M_Q_clearColumn 1 _ 10 _ [some (.ref 19), some (.int (nI us)), some (.int (nI col)), some (.ref (ro us)), some (.int (nI (r + 1))), some (.ref (ro r)), some (.long (lN (((clr M us col c r) r) col))), none, some (.int (nI (col + (c + 1 - col))))] _ [] rfl ?_
          exact ih (r + 1) h2 _ _ _ (by omega) (by omega) (by rw [hcl]; exact hQ2) hF2
      · have hc2 := c2_ne_f (a := r) (b := us) (by omega) (by omega) hc2
        have hcl : clr M us col c (r + 1) = clr M us col c r := by rw [clr, if_pos hc2]
        refine ar_go M_Q_clearColumn 7 _ 50 _ [some (.ref 19), some (.int (nI us)), some (.int (nI col)), some (.ref (ro us)), some (.int (nI r)), some (.ref (ro r)), some (.long (lN 0)), none, some (.int (nI col))] _ [.long (lN 0), .long (lN 0)] rfl ?_
        refine ar_go M_Q_clearColumn 1 _ 51 _ [some (.ref 19), some (.int (nI us)), some (.int (nI col)), some (.ref (ro us)), some (.int (nI r)), some (.ref (ro r)), some (.long (lN 0)), none, some (.int (nI col))] _ [.int (lg_cmp (lN 0) (lN 0))] rfl ?_
        refine ar_if M_Q_clearColumn rfl rfl (fun _ => ?_) (fun z => absurd z (by decide))
        refine ar_go M_Q_clearColumn 1 _ 94 _ [some (.ref 19), some (.int (nI us)), some (.int (nI col)), some (.ref (ro us)), some (.int (nI r + Int32.ofInt 1)), some (.ref (ro r)), some (.long (lN 0)), none, some (.int (nI col))] _ [] rfl ?_
        rw [show nI r + Int32.ofInt 1 = nI (r + 1) from nI_add r 1]
        refine ar_go M_Q_clearColumn 1 _ 10 _ [some (.ref 19), some (.int (nI us)), some (.int (nI col)), some (.ref (ro us)), some (.int (nI (r + 1))), some (.ref (ro r)), some (.long (lN 0)), none, some (.int (nI col))] _ [] rfl ?_
        exact ih (r + 1) h1 _ _ _ (by omega) (by omega) (by rw [hcl]; exact hQ) hF
theorem c_Q_clearColumn (X : am_X) (d : Nat) (h : am_H) {ro : Nat → Nat} {c us col : Nat} {M : Nat → Nat → Nat} {uk : Nat → Option Nat} (hQ : isQ h ro c M uk) (hc : c < 17) (hus : us < 16) (hcol : col ≤ c) : ar Pg X (d + 1) n_Q_clearColumn 0 [some (.ref 19), some (.int (nI us)), some (.int (nI col)), none, none, none, none, none, none] [] h (fun rr h' => rr = none ∧ fr eqL h h' ∧ isQ h' ro c (clr M us col c c) uk) := by
  have hQ0 := hQ
  obtain ⟨q1, ⟨g, q2, q3⟩, q4, q5, q6, q7⟩ := hQ
  refine ar_go M_Q_clearColumn 1 _ 1 _ [some (.ref 19), some (.int (nI us)), some (.int (nI col)), none, none, none, none, none, none] _ [.ref 19] rfl ?_
  refine ar_get M_Q_clearColumn rfl rfl q1 rfl ?_
  refine ar_go M_Q_clearColumn 1 _ 5 _ [some (.ref 19), some (.int (nI us)), some (.int (nI col)), none, none, none, none, none, none] _ [.int (nI us), .ref 20] rfl ?_
  refine ar_aald M_Q_clearColumn rfl q2 (Or.inl rfl) (vp_in_nI (by omega) (by decide)) (by rw [nI_clamp (n := us) (by omega)]; exact q3 us (by omega)) ?_
  have hx1 := q5 us (by omega)
  refine ar_go M_Q_clearColumn 3 _ 10 _ [some (.ref 19), some (.int (nI us)), some (.int (nI col)), some (.ref (ro us)), some (.int (nI 0)), none, none, none, none] _ [] rfl ?_
  exact c_Q_c2_loop X d h (M := M) hc hus hcol (c + 1) 0 h _ _ _ (by omega) (by omega) hQ0 (fr.rf _ _)
end
section
/-! Equations: setRow, solve; becomeSolution -/
def tp (s x : Nat) : Nat → Nat
  | 0 => s
  | i + 1 => tp s x i * x % 2147483647
theorem tp_lt {s : Nat} (hs : s < 2147483647) (x : Nat) : ∀ i, tp s x i < 2147483647
  | 0 => hs
  | i + 1 => Nat.mod_lt _ (by decide)
def r1 (A : Nat → Nat) (s x fm : Nat) : Nat → Nat → Nat
  | 0 => A
  | i + 1 => updN (r1 A s x fm i) (fm + i) (tp s x i)
theorem r1_17 {A : Nat → Nat} (h : lt17 A) {s : Nat} (hs : s < 2147483647) (x fm : Nat) : ∀ i, lt17 (r1 A s x fm i)
  | 0 => h
  | i + 1 => (r1_17 h hs x fm i).up _ (tp_lt hs x i)
def ng (a : Nat) : Nat := (0 + 2147483647 - a) % 2147483647
theorem ng_lt (a : Nat) : ng a < 2147483647 := Nat.mod_lt _ (by decide)
/-- a row as setRow lays it -/
def srw (A : Nat → Nat) (x sA sB u l : Nat) : Nat → Nat := updN (r1 (r1 A sB x 0 u) (ng sA) x u l) (u + l) (ng ((tp sB x u + tp (ng sA) x l) % 2147483647))
theorem srw_17 {A : Nat → Nat} (h : lt17 A) {sB : Nat} (hs : sB < 2147483647) (x sA u l : Nat) : lt17 (srw A x sA sB u l) := (r1_17 (r1_17 h hs x 0 u) (ng_lt sA) x u l).up _ (ng_lt _)
theorem c_Q_s1_loop (X : am_X) (d : Nat) (h : am_H) {ro : Nat → Nat} {c row x sA sB u l : Nat} {M : Nat → Nat → Nat} {A : Nat → Nat} {uk : Nat → Option Nat} {Q : Option Value → am_H → Prop} (hrow : row < 16) (hul : u + l < 17) (hx : x < 2147483648) (hsA : sA < 2147483647) (hsB : sB < 2147483647) (hA : lt17 A)
    (K : ∀ h1 : am_H, isQ h1 ro c (updM M row (r1 A sB x 0 u)) uk → fr eqL h h1 → ar Pg X (d + 1) n_Q_setRow 43 [some (.ref 19), some (.int (nI row)), some (.long (lN x)), none, some (.long (lN sA)), none, some (.long (lN sB)), none, some (.int (nI u)), some (.int (nI l)), some (.ref (ro row)), some (.long (lN (tp sB x u))), none, some (.int (nI u)), none, none] [] h1 Q) :
    ∀ (n i : Nat) (h1 : am_H), u - i < n → i ≤ u → isQ h1 ro c (updM M row (r1 A sB x 0 i)) uk → fr eqL h h1 → ar Pg X (d + 1) n_Q_setRow 15 [some (.ref 19), some (.int (nI row)), some (.long (lN x)), none, some (.long (lN sA)), none, some (.long (lN sB)), none, some (.int (nI u)), some (.int (nI l)), some (.ref (ro row)), some (.long (lN (tp sB x i))), none, some (.int (nI i)), none, none] [] h1 Q := by
  intro n
  induction n with
  | zero => intro i h1 hn; omega
  | succ n ih =>
    intro i h1 hn hi hQ hF
    have hQ0 := hQ
    obtain ⟨q1, ⟨g, q2, q3⟩, q4, q5, q6, q7⟩ := hQ0
    have hrb := q4.1 row hrow
    have hx1 := q5 row hrow
    rw [updM_s] at hx1
    refine ar_go M_Q_setRow 2 _ 19 _ [some (.ref 19), some (.int (nI row)), some (.long (lN x)), none, some (.long (lN sA)), none, some (.long (lN sB)), none, some (.int (nI u)), some (.int (nI l)), some (.ref (ro row)), some (.long (lN (tp sB x i))), none, some (.int (nI i)), none, none] _ [.int (nI u), .int (nI i)] rfl ?_
    refine ar_icmp M_Q_setRow rfl rfl (fun hc => ?_) (fun hc => ?_)
    · have hc := c2_ge_t (a := i) (b := u) (by omega) (by omega) hc
      have hi2 : i = u := by omega
      rw [hi2] at hQ ⊢
      exact K h1 hQ hF
    · have hc := c2_ge_f (a := i) (b := u) (by omega) (by omega) hc
      have htp := tp_lt hsB x i
      refine ar_go M_Q_setRow 3 _ 28 _ [some (.ref 19), some (.int (nI row)), some (.long (lN x)), none, some (.long (lN sA)), none, some (.long (lN sB)), none, some (.int (nI u)), some (.int (nI l)), some (.ref (ro row)), some (.long (lN (tp sB x i))), none, some (.int (nI i)), none, none] _ [.long (lN (tp sB x i)), .int (nI i), .ref (ro row)] rfl ?_
      refine ar_last M_Q_setRow rfl hx1 (vp_in_nI (by omega) (by decide)) (fun h2 hf he => ?_)
      rw [nI_clamp (n := i) (by omega)] at he
      rw [updL_lN] at he
      have hx1 : h2[(ro row)]? = some (.inl (1, 17, .inr (.inl (fun z9 => lN ((updN (r1 A sB x 0 i) i (tp sB x i)) z9))))) := he
      have hx1 : h2[ro row]? = some (.inl (1, 17, .inr (.inl (fun z9 => lN (r1 A sB x 0 (i + 1) z9))))) := by rw [hx1, r1, Nat.zero_add]
      have hQ2 := hQ.set hrow hf hx1 (r1_17 hA hsB x 0 (i + 1))
      rw [updM_updM] at hQ2
      have k1 := hF.tr hf (l := eqL) (fun _ z => z) (eq_sub q4 hrow)
      refine ar_go M_Q_setRow 2 _ 32 _ [some (.ref 19), some (.int (nI row)), some (.long (lN x)), none, some (.long (lN sA)), none, some (.long (lN sB)), none, some (.int (nI u)), some (.int (nI l)), some (.ref (ro row)), some (.long (lN (tp sB x i))), none, some (.int (nI i)), none, none] _ [.long (lN x), .long (lN (tp sB x i))] rfl ?_
      refine ar_CS M_Q_setRow rfl rfl (Nat.le_of_ble_eq_true rfl) rfl rfl (Nat.le_of_ble_eq_true rfl) M_F_times (Nat.le_of_ble_eq_true rfl) (c_F_times X d _ (by omega) hx) (fun r1 h1 hq => ?_)
      obtain ⟨rfl, rfl⟩ := hq
      refine ⟨rfl, ?_⟩
      show ar Pg _ _ _ 35 [some (.ref 19), some (.int (nI row)), some (.long (lN x)), none, some (.long (lN sA)), none, some (.long (lN sB)), none, some (.int (nI u)), some (.int (nI l)), some (.ref (ro row)), some (.long (lN (tp sB x i))), none, some (.int (nI i)), none, none] [.long (lN (tp sB x (i + 1)))] _ _
      refine ar_go M_Q_setRow 1 _ 37 _ [some (.ref 19), some (.int (nI row)), some (.long (lN x)), none, some (.long (lN sA)), none, some (.long (lN sB)), none, some (.int (nI u)), some (.int (nI l)), some (.ref (ro row)), some (.long (lN (tp sB x (i + 1)))), none, some (.int (nI i)), none, none] _ [] rfl ?_
      refine ar_go M_Q_setRow 1 _ 40 _ [some (.ref 19), some (.int (nI row)), some (.long (lN x)), none, some (.long (lN sA)), none, some (.long (lN sB)), none, some (.int (nI u)), some (.int (nI l)), some (.ref (ro row)), some (.long (lN (tp sB x (i + 1)))), none, some (.int (nI i + Int32.ofInt 1)), none, none] _ [] rfl ?_
      rw [show nI i + Int32.ofInt 1 = nI (i + 1) from nI_add i 1]
      refine ar_go M_Q_setRow 1 _ 15 _ [some (.ref 19), some (.int (nI row)), some (.long (lN x)), none, some (.long (lN sA)), none, some (.long (lN sB)), none, some (.int (nI u)), some (.int (nI l)), some (.ref (ro row)), some (.long (lN (tp sB x (i + 1)))), none, some (.int (nI (i + 1))), none, none] _ [] rfl ?_
      exact ih (i + 1) _ (by omega) (by omega) hQ2 k1
theorem c_Q_s2_loop (X : am_X) (d : Nat) (h : am_H) {ro : Nat → Nat} {c row x sA sB s2 u l : Nat} {M : Nat → Nat → Nat} {A : Nat → Nat} {uk : Nat → Option Nat} {Q : Option Value → am_H → Prop} (hrow : row < 16) (hul : u + l < 17) (hx : x < 2147483648) (hsA : sA < 2147483647) (hsB : sB < 2147483647) (hA : lt17 A) (hs2 : s2 < 2147483647)
    (K : ∀ h1 : am_H, isQ h1 ro c (updM M row (r1 A s2 x u l)) uk → fr eqL h h1 → ar Pg X (d + 1) n_Q_setRow 85 [some (.ref 19), some (.int (nI row)), some (.long (lN x)), none, some (.long (lN sA)), none, some (.long (lN sB)), none, some (.int (nI u)), some (.int (nI l)), some (.ref (ro row)), some (.long (lN (tp sB x u))), none, some (.long (lN (tp s2 x l))), none, some (.int (nI l))] [] h1 Q) :
    ∀ (n i : Nat) (h1 : am_H), l - i < n → i ≤ l → isQ h1 ro c (updM M row (r1 A s2 x u i)) uk → fr eqL h h1 → ar Pg X (d + 1) n_Q_setRow 54 [some (.ref 19), some (.int (nI row)), some (.long (lN x)), none, some (.long (lN sA)), none, some (.long (lN sB)), none, some (.int (nI u)), some (.int (nI l)), some (.ref (ro row)), some (.long (lN (tp sB x u))), none, some (.long (lN (tp s2 x i))), none, some (.int (nI i))] [] h1 Q := by
  intro n
  induction n with
  | zero => intro i h1 hn; omega
  | succ n ih =>
    intro i h1 hn hi hQ hF
    have hQ0 := hQ
    obtain ⟨q1, ⟨g, q2, q3⟩, q4, q5, q6, q7⟩ := hQ0
    have hrb := q4.1 row hrow
    have hx1 := q5 row hrow
    rw [updM_s] at hx1
    refine ar_go M_Q_setRow 2 _ 58 _ [some (.ref 19), some (.int (nI row)), some (.long (lN x)), none, some (.long (lN sA)), none, some (.long (lN sB)), none, some (.int (nI u)), some (.int (nI l)), some (.ref (ro row)), some (.long (lN (tp sB x u))), none, some (.long (lN (tp s2 x i))), none, some (.int (nI i))] _ [.int (nI l), .int (nI i)] rfl ?_
    refine ar_icmp M_Q_setRow rfl rfl (fun hc => ?_) (fun hc => ?_)
    · have hc := c2_ge_t (a := i) (b := l) (by omega) (by omega) hc
      have hi2 : i = l := by omega
      rw [hi2] at hQ ⊢
      exact K h1 hQ hF
    · have hc := c2_ge_f (a := i) (b := l) (by omega) (by omega) hc
      have htp := tp_lt hs2 x i
      refine ar_go M_Q_setRow 4 _ 68 _ [some (.ref 19), some (.int (nI row)), some (.long (lN x)), none, some (.long (lN sA)), none, some (.long (lN sB)), none, some (.int (nI u)), some (.int (nI l)), some (.ref (ro row)), some (.long (lN (tp sB x u))), none, some (.long (lN (tp s2 x i))), none, some (.int (nI i))] _ [.int (nI u + nI i), .ref (ro row)] rfl ?_
      refine ar_top (w := .int (nI (u + i))) (congrArg Value.int (nI_add u i)) ?_
      refine ar_go M_Q_setRow 1 _ 70 _ [some (.ref 19), some (.int (nI row)), some (.long (lN x)), none, some (.long (lN sA)), none, some (.long (lN sB)), none, some (.int (nI u)), some (.int (nI l)), some (.ref (ro row)), some (.long (lN (tp sB x u))), none, some (.long (lN (tp s2 x i))), none, some (.int (nI i))] _ [.long (lN (tp s2 x i)), .int (nI (u + i)), .ref (ro row)] rfl ?_
      refine ar_last M_Q_setRow rfl hx1 (vp_in_nI (by omega) (by decide)) (fun h2 hf he => ?_)
      rw [nI_clamp (n := (u + i)) (by omega)] at he
      rw [updL_lN] at he
      have hx1 : h2[(ro row)]? = some (.inl (1, 17, .inr (.inl (fun z9 => lN ((updN (r1 A s2 x u i) (u + i) (tp s2 x i)) z9))))) := he
      have hQ2 := hQ.set hrow hf hx1 (r1_17 hA hs2 x u (i + 1))
      rw [updM_updM] at hQ2
      have k1 := hF.tr hf (l := eqL) (fun _ z => z) (eq_sub q4 hrow)
      refine ar_go M_Q_setRow 2 _ 74 _ [some (.ref 19), some (.int (nI row)), some (.long (lN x)), none, some (.long (lN sA)), none, some (.long (lN sB)), none, some (.int (nI u)), some (.int (nI l)), some (.ref (ro row)), some (.long (lN (tp sB x u))), none, some (.long (lN (tp s2 x i))), none, some (.int (nI i))] _ [.long (lN x), .long (lN (tp s2 x i))] rfl ?_
      refine ar_CS M_Q_setRow rfl rfl (Nat.le_of_ble_eq_true rfl) rfl rfl (Nat.le_of_ble_eq_true rfl) M_F_times (Nat.le_of_ble_eq_true rfl) (c_F_times X d _ (by omega) hx) (fun r1 h1 hq => ?_)
      obtain ⟨rfl, rfl⟩ := hq
      refine ⟨rfl, ?_⟩
      show ar Pg _ _ _ 77 [some (.ref 19), some (.int (nI row)), some (.long (lN x)), none, some (.long (lN sA)), none, some (.long (lN sB)), none, some (.int (nI u)), some (.int (nI l)), some (.ref (ro row)), some (.long (lN (tp sB x u))), none, some (.long (lN (tp s2 x i))), none, some (.int (nI i))] [.long (lN (tp s2 x (i + 1)))] _ _
      refine ar_go M_Q_setRow 1 _ 79 _ [some (.ref 19), some (.int (nI row)), some (.long (lN x)), none, some (.long (lN sA)), none, some (.long (lN sB)), none, some (.int (nI u)), some (.int (nI l)), some (.ref (ro row)), some (.long (lN (tp sB x u))), none, some (.long (lN (tp s2 x (i + 1)))), none, some (.int (nI i))] _ [] rfl ?_
      refine ar_go M_Q_setRow 1 _ 82 _ [some (.ref 19), some (.int (nI row)), some (.long (lN x)), none, some (.long (lN sA)), none, some (.long (lN sB)), none, some (.int (nI u)), some (.int (nI l)), some (.ref (ro row)), some (.long (lN (tp sB x u))), none, some (.long (lN (tp s2 x (i + 1)))), none, some (.int (nI i + Int32.ofInt 1))] _ [] rfl ?_
      rw [show nI i + Int32.ofInt 1 = nI (i + 1) from nI_add i 1]
      refine ar_go M_Q_setRow 1 _ 54 _ [some (.ref 19), some (.int (nI row)), some (.long (lN x)), none, some (.long (lN sA)), none, some (.long (lN sB)), none, some (.int (nI u)), some (.int (nI l)), some (.ref (ro row)), some (.long (lN (tp sB x u))), none, some (.long (lN (tp s2 x (i + 1)))), none, some (.int (nI (i + 1)))] _ [] rfl ?_
      exact ih (i + 1) _ (by omega) (by omega) hQ2 k1
theorem c_Q_setRow (X : am_X) (d : Nat) (h : am_H) {ro : Nat → Nat} {c row x sA sB u l : Nat} {M : Nat → Nat → Nat} {uk : Nat → Option Nat} (hQ : isQ h ro c M uk) (hrow : row < 16) (hul : u + l < 17) (hx : x < 2147483648) (hsA : sA < 2147483647) (hsB : sB < 2147483647) : ar Pg X (d + 1) n_Q_setRow 0 [some (.ref 19), some (.int (nI row)), some (.long (lN x)), none, some (.long (lN sA)), none, some (.long (lN sB)), none, some (.int (nI u)), some (.int (nI l)), none, none, none, none, none, none] [] h (fun rr h' => rr = none ∧ fr eqL h h' ∧ isQ h' ro c (updM M row (srw (M row) x sA sB u l)) uk) := by
  have hQ0 := hQ
  obtain ⟨q1, ⟨g, q2, q3⟩, q4, q5, q6, q7⟩ := hQ
  refine ar_go M_Q_setRow 1 _ 1 _ [some (.ref 19), some (.int (nI row)), some (.long (lN x)), none, some (.long (lN sA)), none, some (.long (lN sB)), none, some (.int (nI u)), some (.int (nI l)), none, none, none, none, none, none] _ [.ref 19] rfl ?_
  refine ar_get M_Q_setRow rfl rfl q1 rfl ?_
  refine ar_go M_Q_setRow 1 _ 5 _ [some (.ref 19), some (.int (nI row)), some (.long (lN x)), none, some (.long (lN sA)), none, some (.long (lN sB)), none, some (.int (nI u)), some (.int (nI l)), none, none, none, none, none, none] _ [.int (nI row), .ref 20] rfl ?_
  refine ar_aald M_Q_setRow rfl q2 (Or.inl rfl) (vp_in_nI (by omega) (by decide)) (by rw [nI_clamp (n := row) (by omega)]; exact q3 row (by omega)) ?_
  have hx1 := q5 row (by omega)
  refine ar_go M_Q_setRow 5 _ 15 _ [some (.ref 19), some (.int (nI row)), some (.long (lN x)), none, some (.long (lN sA)), none, some (.long (lN sB)), none, some (.int (nI u)), some (.int (nI l)), some (.ref (ro row)), some (.long (lN sB)), none, some (.int (nI 0)), none, none] _ [] rfl ?_
  refine c_Q_s1_loop X d h (M := M) (A := M row) hrow hul hx hsA hsB (q6 row hrow) ?_ (u + 1) 0 h (by omega) (by omega) (by rw [show r1 (M row) sB x 0 0 = M row from rfl, updM_self]; exact hQ0) (fr.rf _ _)
  intro h1 hQ1 hF1
  refine ar_go M_Q_setRow 2 _ 46 _ [some (.ref 19), some (.int (nI row)), some (.long (lN x)), none, some (.long (lN sA)), none, some (.long (lN sB)), none, some (.int (nI u)), some (.int (nI l)), some (.ref (ro row)), some (.long (lN (tp sB x u))), none, some (.int (nI u)), none, none] _ [.long (lN sA), .long (lN 0)] rfl ?_
  refine ar_CS M_Q_setRow rfl rfl (Nat.le_of_ble_eq_true rfl) rfl rfl (Nat.le_of_ble_eq_true rfl) M_F_minus (Nat.le_of_ble_eq_true rfl) (c_F_minus X d _ (by decide) (by omega) (by omega)) (fun r1 h1 hq => ?_)
  obtain ⟨rfl, rfl⟩ := hq
  refine ⟨rfl, ?_⟩
  show ar Pg _ _ _ 49 [some (.ref 19), some (.int (nI row)), some (.long (lN x)), none, some (.long (lN sA)), none, some (.long (lN sB)), none, some (.int (nI u)), some (.int (nI l)), some (.ref (ro row)), some (.long (lN (tp sB x u))), none, some (.int (nI u)), none, none] [.long (lN (ng sA))] _ _
  refine ar_go M_Q_setRow 3 _ 54 _ [some (.ref 19), some (.int (nI row)), some (.long (lN x)), none, some (.long (lN sA)), none, some (.long (lN sB)), none, some (.int (nI u)), some (.int (nI l)), some (.ref (ro row)), some (.long (lN (tp sB x u))), none, some (.long (lN (ng sA))), none, some (.int (nI 0))] _ [] rfl ?_
  refine c_Q_s2_loop X d h (M := M) (A := r1 (M row) sB x 0 u) hrow hul hx hsA hsB (r1_17 (q6 row hrow) hsB x 0 u) (ng_lt sA) ?_ (l + 1) 0 _ (by omega) (by omega) hQ1 hF1
  intro h3 hQ3 hF3
  have hQ4 := hQ3
  obtain ⟨-, -, q43, q53, -, -⟩ := hQ4
  have hrb := q43.1 row hrow
  have hx1 := q53 row hrow
  rw [updM_s] at hx1
  have t1 := tp_lt hsB x u
  have t2 := tp_lt (ng_lt sA) x l
  refine ar_go M_Q_setRow 4 _ 92 _ [some (.ref 19), some (.int (nI row)), some (.long (lN x)), none, some (.long (lN sA)), none, some (.long (lN sB)), none, some (.int (nI u)), some (.int (nI l)), some (.ref (ro row)), some (.long (lN (tp sB x u))), none, some (.long (lN (tp (ng sA) x l))), none, some (.int (nI l))] _ [.int (nI u + nI l), .ref (ro row)] rfl ?_
  refine ar_top (w := .int (nI (u + l))) (congrArg Value.int (nI_add u l)) ?_
  refine ar_go M_Q_setRow 3 _ 97 _ [some (.ref 19), some (.int (nI row)), some (.long (lN x)), none, some (.long (lN sA)), none, some (.long (lN sB)), none, some (.int (nI u)), some (.int (nI l)), some (.ref (ro row)), some (.long (lN (tp sB x u))), none, some (.long (lN (tp (ng sA) x l))), none, some (.int (nI l))] _ [.long (lN (tp (ng sA) x l)), .long (lN (tp sB x u)), .long (lN 0), .int (nI (u + l)), .ref (ro row)] rfl ?_
  refine ar_CS M_Q_setRow rfl rfl (Nat.le_of_ble_eq_true rfl) rfl rfl (Nat.le_of_ble_eq_true rfl) M_F_plus (Nat.le_of_ble_eq_true rfl) (c_F_plus X d _ (by omega) (by omega)) (fun r1 h1 hq => ?_)
  obtain ⟨rfl, rfl⟩ := hq
  refine ⟨rfl, ?_⟩
  have hmm : (tp sB x u + tp (ng sA) x l) % 2147483647 < 2147483647 := Nat.mod_lt _ (by decide)
  show ar Pg _ _ _ 100 [some (.ref 19), some (.int (nI row)), some (.long (lN x)), none, some (.long (lN sA)), none, some (.long (lN sB)), none, some (.int (nI u)), some (.int (nI l)), some (.ref (ro row)), some (.long (lN (tp sB x u))), none, some (.long (lN (tp (ng sA) x l))), none, some (.int (nI l))] [.long (lN ((tp sB x u + tp (ng sA) x l) % 2147483647)), .long (lN 0), .int (nI (u + l)), .ref (ro row)] _ _
  refine ar_CS M_Q_setRow rfl rfl (Nat.le_of_ble_eq_true rfl) rfl rfl (Nat.le_of_ble_eq_true rfl) M_F_minus (Nat.le_of_ble_eq_true rfl) (c_F_minus X d _ (by decide) (by omega) (by omega)) (fun r1 h1 hq => ?_)
  obtain ⟨rfl, rfl⟩ := hq
  refine ⟨rfl, ?_⟩
  show ar Pg _ _ _ 103 [some (.ref 19), some (.int (nI row)), some (.long (lN x)), none, some (.long (lN sA)), none, some (.long (lN sB)), none, some (.int (nI u)), some (.int (nI l)), some (.ref (ro row)), some (.long (lN (tp sB x u))), none, some (.long (lN (tp (ng sA) x l))), none, some (.int (nI l))] [.long (lN (ng ((tp sB x u + tp (ng sA) x l) % 2147483647))), .int (nI (u + l)), .ref (ro row)] _ _
  refine ar_last M_Q_setRow rfl hx1 (vp_in_nI (by omega) (by decide)) (fun h5 hf he => ?_)
  rw [nI_clamp (n := (u + l)) (by omega)] at he
  rw [updL_lN] at he
  have hx1 : h5[(ro row)]? = some (.inl (1, 17, .inr (.inl (fun z9 => lN ((updN (r1 (r1 (M row) sB x 0 u) (ng sA) x u l) (u + l) (ng ((tp sB x u + tp (ng sA) x l) % 2147483647))) z9))))) := he
  have hQ5 := hQ3.set hrow hf hx1 (srw_17 (q6 row hrow) hsB x sA u l)
  rw [updM_updM] at hQ5
  exact ar_R M_Q_setRow rfl rfl rfl rfl (⟨rfl, hF3.tr hf (fun _ z => z) (eq_sub q43 hrow), hQ5⟩)
def bs (A : Nat → Nat) (M : Nat → Nat → Nat) (uk : Nat → Option Nat) (c fst : Nat) : Nat → Nat → Nat
  | 0 => A
  | i + 1 => updN (bs A M uk c fst i) i (unk M uk c (fst + i))
theorem unk_lt {M : Nat → Nat → Nat} {uk : Nat → Option Nat} {c col : Nat} (hM : ∀ i, i < 16 → lt17 (M i)) (hc : c < 17) (hcol : col < 16) (huk : ∀ i r, i < 16 → uk i = some r → r < 16) : unk M uk c col < 2147483647 := by
  unfold unk
  cases hu : uk col with
  | none => show 0 < 2147483647; decide
  | some r => exact hM r (huk col r hcol hu) c hc
theorem c_Y_bs_loop (X : am_X) (d : Nat) (h : am_H) {ro : Nat → Nat} {y k c fs nd : Nat} {A : Nat → Nat} {M : Nat → Nat → Nat} {uk : Nat → Option Nat} (hy1 : y + 1 < 19) (hc : c < 17) (hnd : nd < 17) (hfn : fs + nd ≤ 16) (huk : ∀ i r, i < 16 → uk i = some r → r < 16) : ∀ (n i : Nat) (h1 : am_H) (B : Nat → Nat), nd - i < n → i ≤ nd → isYO h1 y k → isLA h1 (y + 1) 17 B → lt17 B → B = bs A M uk c fs i → isQ h1 ro c M uk → fr [y, y + 1] h h1 → ar Pg X (d + 1) n_Y_becomeSolution 3 [some (.ref y), some (.ref 19), some (.int (nI fs)), some (.int (nI nd)), some (.int (nI i))] [] h1 (fun rr h' => rr = none ∧ fr [y, y + 1] h h' ∧ isP h' y (nd + 1) (updN (bs A M uk c fs nd) nd 1)) := by
  intro n
  induction n with
  | zero => intro i h1 B hn; omega
  | succ n ih =>
    intro i h1 B hn hi hy ha hl hB hQ hF
    unfold isYO at hy
    unfold isLA at ha
    refine ar_go M_Y_becomeSolution 2 _ 6 _ [some (.ref y), some (.ref 19), some (.int (nI fs)), some (.int (nI nd)), some (.int (nI i))] _ [.int (nI nd), .int (nI i)] rfl ?_
    refine ar_icmp M_Y_becomeSolution rfl rfl (fun hc1 => ?_) (fun hc1 => ?_)
    · have hc1 := c2_ge_t (a := i) (b := nd) (by omega) (by omega) hc1
      have hi2 : i = nd := by omega
      rw [hi2] at hB
      refine ar_go M_Y_becomeSolution 1 _ 31 _ [some (.ref y), some (.ref 19), some (.int (nI fs)), some (.int (nI nd)), some (.int (nI i))] _ [.ref y] rfl ?_
      refine ar_get M_Y_becomeSolution rfl rfl hy rfl ?_
      refine ar_go M_Y_becomeSolution 2 _ 36 _ [some (.ref y), some (.ref 19), some (.int (nI fs)), some (.int (nI nd)), some (.int (nI i))] _ [.long (lN 1), .int (nI nd), .ref (y + 1)] rfl ?_
      refine ar_last M_Y_becomeSolution rfl ha (vp_in_nI (by omega) (by decide)) (fun h2 hf he => ?_)
      rw [nI_clamp (n := nd) (by omega)] at he
      rw [updL_lN] at he
      have hy := hf.at hy (by simp only [List.mem_cons, List.not_mem_nil, or_false]; omega)
      have ha : h2[(y + 1)]? = some (.inl (1, 17, .inr (.inl (fun z9 => lN ((updN B nd 1) z9))))) := he
      have k1 := hf
      refine ar_go M_Y_becomeSolution 2 _ 39 _ [some (.ref y), some (.ref 19), some (.int (nI fs)), some (.int (nI nd)), some (.int (nI i))] _ [.int (nI nd), .ref y] rfl ?_
      refine ar_put M_Y_becomeSolution rfl rfl hy (Nat.le_of_ble_eq_true rfl) rfl (Nat.le_of_ble_eq_true rfl) (fun h3 hf he => ?_)
      have ha := hf.at ha (by simp only [List.mem_cons, List.not_mem_nil, or_false]; omega)
      have hy : h3[y]? = some (.inr (2, [.ref (y + 1), .int (nI nd)])) := he
      exact ar_R M_Y_becomeSolution rfl rfl rfl rfl (⟨rfl, hF.tr (k1.tr hf (l := [y, y + 1]) (by simp) (by simp)) (by simp) (by simp), by omega, hy, by rw [← hB]; exact ha, by rw [← hB]; exact hl.up nd (v := 1) (by decide)⟩)
    · have hc1 := c2_ge_f (a := i) (b := nd) (by omega) (by omega) hc1
      refine ar_go M_Y_becomeSolution 1 _ 10 _ [some (.ref y), some (.ref 19), some (.int (nI fs)), some (.int (nI nd)), some (.int (nI i))] _ [.ref y] rfl ?_
      refine ar_get M_Y_becomeSolution rfl rfl hy rfl ?_
      refine ar_go M_Y_becomeSolution 5 _ 20 _ [some (.ref y), some (.ref 19), some (.int (nI fs)), some (.int (nI nd)), some (.int (nI i))] _ [.int (nI fs + nI i), .ref 19, .int (nI i), .ref (y + 1)] rfl ?_
      refine ar_top (w := .int (nI (fs + i))) (congrArg Value.int (nI_add fs i)) ?_
      refine ar_CV M_Y_becomeSolution rfl rfl (Or.inl rfl) rfl rfl (Nat.le_of_ble_eq_true rfl) hQ.1 M_Q_unknown (Nat.le_of_ble_eq_true rfl) (c_Q_unknown X d _ hQ hc (by omega) huk) (fun r1 h1 hq => ?_)
      obtain ⟨rfl, rfl⟩ := hq
      refine ⟨rfl, ?_⟩
      show ar Pg _ _ _ 23 [some (.ref y), some (.ref 19), some (.int (nI fs)), some (.int (nI nd)), some (.int (nI i))] [.long (lN (unk M uk c (fs + i))), .int (nI i), .ref (y + 1)] _ _
      refine ar_last M_Y_becomeSolution rfl ha (vp_in_nI (by omega) (by decide)) (fun h2 hf he => ?_)
      rw [nI_clamp (n := i) (by omega)] at he
      rw [updL_lN] at he
      have hy := hf.at hy (by simp only [List.mem_cons, List.not_mem_nil, or_false]; omega)
      have ha : h2[(y + 1)]? = some (.inl (1, 17, .inr (.inl (fun z9 => lN ((updN B i (unk M uk c (fs + i))) z9))))) := he
      refine ar_go M_Y_becomeSolution 1 _ 27 _ [some (.ref y), some (.ref 19), some (.int (nI fs)), some (.int (nI nd)), some (.int (nI i + Int32.ofInt 1))] _ [] rfl ?_
      rw [show nI i + Int32.ofInt 1 = nI (i + 1) from nI_add i 1]
      refine ar_go M_Y_becomeSolution 1 _ 3 _ [some (.ref y), some (.ref 19), some (.int (nI fs)), some (.int (nI nd)), some (.int (nI (i + 1)))] _ [] rfl ?_
      exact ih (i + 1) h2 _ (by omega) (by omega) hy ha (hl.up _ (unk_lt hQ.2.2.2.2.1 hc (by omega) huk)) (by rw [bs, hB]) (hQ.mv hf (by intro k h1 h2; simp; omega)) (hF.tr hf (by simp) (by simp))
theorem c_Y_becomeSolution (X : am_X) (d : Nat) (h : am_H) {ro : Nat → Nat} {y k c fs nd : Nat} {A : Nat → Nat} {M : Nat → Nat → Nat} {uk : Nat → Option Nat} (hP : isP h y k A) (hQ : isQ h ro c M uk) (hy1 : y + 1 < 19) (hc : c < 17) (hnd : nd < 17) (hfn : fs + nd ≤ 16) (huk : ∀ i r, i < 16 → uk i = some r → r < 16) : ar Pg X (d + 1) n_Y_becomeSolution 0 [some (.ref y), some (.ref 19), some (.int (nI fs)), some (.int (nI nd)), none] [] h (fun rr h' => rr = none ∧ fr [y, y + 1] h h' ∧ isP h' y (nd + 1) (updN (bs A M uk c fs nd) nd 1)) := by
  refine ar_go M_Y_becomeSolution 2 _ 3 _ [some (.ref y), some (.ref 19), some (.int (nI fs)), some (.int (nI nd)), some (.int (nI 0))] _ [] rfl ?_
  exact c_Y_bs_loop X d h hy1 hc hnd hfn huk (nd + 1) 0 h A (by omega) (by omega) hP.2.1 hP.2.2.1 hP.2.2.2 rfl hQ (fr.rf _ _)
end
section
/-! Equations: fill, solve -/
def updU (uk : Nat → Option Nat) (j : Nat) (v : Option Nat) : Nat → Option Nat := fun i => if i = j then v else uk i
theorem upd_ruI (uk : Nat → Option Nat) (j : Nat) (v : Option Nat) : upd (fun i => ruI (uk i)) j (ruI v) = fun i => ruI (updU uk j v i) := by
  funext i
  unfold upd updU
  split <;> rfl
def flU (uk : Nat → Option Nat) : Nat → Nat → Option Nat
  | 0 => uk
  | i + 1 => updU (flU uk i) i none
theorem flU_lt (uk : Nat → Option Nat) : ∀ n i, i < n → flU uk n i = none
  | 0, i, h => absurd h (Nat.not_lt_zero _)
  | n + 1, i, h => by
    rw [flU]
    unfold updU
    split
    · rfl
    · exact flU_lt uk n i (by omega)
/-- one column of Gauss and Jordan: matrix, rows of unknowns, how many rows are used -/
def gjs (c col : Nat) (S : (Nat → Nat → Nat) × (Nat → Option Nat) × Nat) : (Nat → Nat → Nat) × (Nat → Option Nat) × Nat :=
  if fz S.1 col (c - S.2.2) S.2.2 < c then
    (clr (updM (swM S.1 (fz S.1 col (c - S.2.2) S.2.2) S.2.2) S.2.2 (sc1 (swM S.1 (fz S.1 col (c - S.2.2) S.2.2) S.2.2 S.2.2) (mf_iv (swM S.1 (fz S.1 col (c - S.2.2) S.2.2) S.2.2 S.2.2 col)) col (c + 1 - col))) S.2.2 col c c, updU S.2.1 col (some S.2.2), S.2.2 + 1)
  else S
def gj (c : Nat) (M : Nat → Nat → Nat) (uk : Nat → Option Nat) : Nat → (Nat → Nat → Nat) × (Nat → Option Nat) × Nat
  | 0 => (M, flU uk 16, 0)
  | col + 1 => gjs c col (gj c M uk col)
theorem gj_used (c : Nat) (M : Nat → Nat → Nat) (uk : Nat → Option Nat) : ∀ col, (gj c M uk col).2.2 ≤ col
  | 0 => Nat.le_refl _
  | col + 1 => by
    have := gj_used c M uk col
    rw [gj, gjs]
    split
    · show (gj c M uk col).2.2 + 1 ≤ col + 1; omega
    · omega
theorem gj_uk {c : Nat} (hc : c ≤ 16) (M : Nat → Nat → Nat) (uk : Nat → Option Nat) : ∀ col, col ≤ c → ∀ i r, i < 16 → (gj c M uk col).2.1 i = some r → r < 16
  | 0, _, i, r, hi, h => by
    have h : flU uk 16 i = some r := h
    rw [flU_lt uk 16 i hi] at h
    cases h
  | col + 1, hcol, i, r, hi, h => by
    have ih := gj_uk hc M uk col (by omega) i r hi
    have hu := gj_used c M uk col
    rw [gj, gjs] at h
    split at h
    · have h : updU (gj c M uk col).2.1 col (some (gj c M uk col).2.2) i = some r := h
      unfold updU at h
      split at h
      · cases h; omega
      · exact ih h
    · exact ih h
theorem fz_le (M : Nat → Nat → Nat) (col : Nat) : ∀ n row, fz M col n row ≤ row + n
  | 0, row => Nat.le_refl _
  | n + 1, row => by
    have := fz_le M col n (row + 1)
    rw [fz]
    split <;> omega
theorem c_J_fl_loop (X : am_X) (d : Nat) (h : am_H) {uk : Nat → Option Nat} : ∀ (n i0 : Nat) (h1 : am_H), 16 - i0 < n → i0 ≤ 16 → h1[37]? = some (.inl (0, 16, .inl (fun i => ruI (flU uk i0 i)))) → fr [37] h h1 → ar Pg X d n_J_fill 5 [some (.ref 37), some (.int (-1)), some (.int (nI i0)), some (.int (nI 16))] [] h1 (fun rr h' => rr = none ∧ fr [37] h h' ∧ h'[37]? = some (.inl (0, 16, .inl (fun i => ruI (flU uk 16 i))))) := by
  intro n
  induction n with
  | zero => intro i0 h1 hn; omega
  | succ n ih =>
    intro i0 h1 hn hi q7 hF
    refine ar_go M_J_fill 2 _ 7 _ [some (.ref 37), some (.int (-1)), some (.int (nI i0)), some (.int (nI 16))] _ [.int (nI 16), .int (nI i0)] rfl ?_
    refine ar_icmp M_J_fill rfl rfl (fun hc => ?_) (fun hc => ?_)
    · have hc := c2_ge_t (a := i0) (b := 16) (by omega) (by omega) hc
      have hi2 : i0 = 16 := by omega
      rw [hi2] at q7
      exact ar_R M_J_fill rfl rfl rfl rfl (⟨rfl, hF, q7⟩)
    · have hc := c2_ge_f (a := i0) (b := 16) (by omega) (by omega) hc
      refine ar_go M_J_fill 3 _ 13 _ [some (.ref 37), some (.int (-1)), some (.int (nI i0)), some (.int (nI 16))] _ [.int (-1), .int (nI i0), .ref 37] rfl ?_
      refine ar_iast M_J_fill rfl q7 (vp_in_nI (by omega) (by decide)) (fun h2 hf he => ?_)
      rw [nI_clamp (n := i0) (by omega)] at he
      have q7 : h2[37]? = some (.inl (0, 16, .inl (fun i => ruI (flU uk (i0 + 1) i)))) := by rw [he]; exact congrArg (fun z => some (Sum.inl (0, 16, Sum.inl z))) (upd_ruI (flU uk i0) i0 none)
      refine ar_go M_J_fill 1 _ 17 _ [some (.ref 37), some (.int (-1)), some (.int (nI i0 + Int32.ofInt 1)), some (.int (nI 16))] _ [] rfl ?_
      rw [show nI i0 + Int32.ofInt 1 = nI (i0 + 1) from nI_add i0 1]
      refine ar_go M_J_fill 1 _ 5 _ [some (.ref 37), some (.int (-1)), some (.int (nI (i0 + 1))), some (.int (nI 16))] _ [] rfl ?_
      exact ih (i0 + 1) h2 (by omega) (by omega) q7 (hF.tr hf (by simp) (by simp))
theorem c_J_fill (X : am_X) (d : Nat) (h : am_H) {uk : Nat → Option Nat} (q7 : h[37]? = some (.inl (0, 16, .inl (fun i => ruI (uk i))))) : ar Pg X d n_J_fill 0 [some (.ref 37), some (.int (-1)), none, none] [] h (fun rr h' => rr = none ∧ fr [37] h h' ∧ h'[37]? = some (.inl (0, 16, .inl (fun i => ruI (flU uk 16 i))))) := by
  refine ar_go M_J_fill 3 _ 3 _ [some (.ref 37), some (.int (-1)), some (.int (nI 0)), none] _ [.ref 37] rfl ?_
  refine ar_alen M_J_fill rfl (by unfold am_x0; omega) q7 (by decide) ?_
  refine ar_go M_J_fill 1 _ 5 _ [some (.ref 37), some (.int (-1)), some (.int (nI 0)), some (.int (nI 16))] _ [] rfl ?_
  exact c_J_fl_loop X d h 17 0 h (by omega) (by omega) q7 (fr.rf _ _)
theorem c_Q_so_loop (X : am_X) (d : Nat) (h : am_H) {c : Nat} {M : Nat → Nat → Nat} {uk : Nat → Option Nat} (hc : c ≤ 16) : ∀ (n col us : Nat) (Mc : Nat → Nat → Nat) (ukc : Nat → Option Nat) (ro : Nat → Nat) (h1 : am_H) (x4 : Option Value), c - col < n → col ≤ c → us ≤ col → gj c M uk col = (Mc, ukc, us) → isQ h1 ro c Mc ukc → fr eqL h h1 → ar Pg X (d + 1 + 1) n_Q_solve 17 [some (.ref 19), some (.int (nI c)), some (.int (nI us)), some (.int (nI col)), x4] [] h1 (fun rr h' => ∃ ro', rr = some (.int (bi (rs0 (gj c M uk c).1 c (c - (gj c M uk c).2.2) (gj c M uk c).2.2))) ∧ fr eqL h h' ∧ isQ h' ro' c (gj c M uk c).1 (gj c M uk c).2.1) := by
  intro n
  induction n with
  | zero => intro col us Mc ukc ro h1 x4 hn; omega
  | succ n ih =>
    intro col us Mc ukc ro h1 x4 hn hcol hus hg hQ hF
    have hQ0 := hQ
    obtain ⟨q1, ⟨g, q2, q3⟩, q4, q5, q6, q7⟩ := hQ0
    refine ar_go M_Q_solve 2 _ 19 _ [some (.ref 19), some (.int (nI c)), some (.int (nI us)), some (.int (nI col)), x4] _ [.ref 19, .int (nI col)] rfl ?_
    refine ar_get M_Q_solve rfl rfl q1 rfl ?_
    refine ar_icmp M_Q_solve rfl rfl (fun hc1 => ?_) (fun hc1 => ?_)
    · have hc1 := c2_ge_t (a := col) (b := c) (by omega) (by omega) hc1
      have hi2 : col = c := by omega
      subst hi2
      refine ar_go M_Q_solve 2 _ 90 _ [some (.ref 19), some (.int (nI col)), some (.int (nI us)), some (.int (nI col)), x4] _ [.int (nI us), .ref 19] rfl ?_
      refine ar_CV M_Q_solve rfl rfl (Or.inl rfl) rfl rfl (Nat.le_of_ble_eq_true rfl) q1 M_Q_rightSidesAre0 (Nat.le_of_ble_eq_true rfl) (c_Q_rightSidesAre0 X (d + 1) _ hQ (by omega) (by omega)) (fun r1 h1 hq => ?_)
      obtain ⟨rfl, rfl⟩ := hq
      refine ⟨rfl, ?_⟩
      show ar Pg _ _ _ 93 [some (.ref 19), some (.int (nI col)), some (.int (nI us)), some (.int (nI col)), x4] [.int (bi (rs0 Mc col (col - us) us))] _ _
      exact ar_zret M_Q_solve rfl rfl (bi_01 _) (⟨ro, by rw [hg], hF, by rw [hg]; exact hQ⟩)
    · have hc1 := c2_ge_f (a := col) (b := c) (by omega) (by omega) hc1
      refine ar_go M_Q_solve 3 _ 28 _ [some (.ref 19), some (.int (nI c)), some (.int (nI us)), some (.int (nI col)), x4] _ [.int (nI col), .int (nI us), .ref 19] rfl ?_
      refine ar_CV M_Q_solve rfl rfl (Or.inl rfl) rfl rfl (Nat.le_of_ble_eq_true rfl) q1 M_Q_rowWithout0 (Nat.le_of_ble_eq_true rfl) (c_Q_rowWithout0 X (d + 1) _ hQ (by omega) (by omega) (by omega)) (fun r1 h1 hq => ?_)
      obtain ⟨rfl, rfl⟩ := hq
      refine ⟨rfl, ?_⟩
      show ar Pg _ _ _ 31 [some (.ref 19), some (.int (nI c)), some (.int (nI us)), some (.int (nI col)), x4] [.int (nI (fz Mc col (c - us) us))] _ _
      have hfz := fz_le Mc col (c - us) us
      obtain ⟨p, hp⟩ : ∃ p, p = fz Mc col (c - us) us := ⟨_, rfl⟩
      rw [← hp] at hfz ⊢
      refine ar_go M_Q_solve 3 _ 36 _ [some (.ref 19), some (.int (nI c)), some (.int (nI us)), some (.int (nI col)), some (.int (nI p))] _ [.ref 19, .int (nI p)] rfl ?_
      refine ar_get M_Q_solve rfl rfl q1 rfl ?_
      refine ar_icmp M_Q_solve rfl rfl (fun hc2 => ?_) (fun hc2 => ?_)
      · have hc2 := c2_ge_t (a := p) (b := c) (by omega) (by omega) hc2
        refine ar_go M_Q_solve 1 _ 85 _ [some (.ref 19), some (.int (nI c)), some (.int (nI us)), some (.int (nI col + Int32.ofInt 1)), some (.int (nI p))] _ [] rfl ?_
        rw [show nI col + Int32.ofInt 1 = nI (col + 1) from nI_add col 1]
        refine ar_go M_Q_solve 1 _ 17 _ [some (.ref 19), some (.int (nI c)), some (.int (nI us)), some (.int (nI (col + 1))), some (.int (nI p))] _ [] rfl ?_
        refine ih (col + 1) us Mc ukc ro h1 _ (by omega) (by omega) (by omega) ?_ hQ hF
        rw [gj, hg, gjs, if_neg (by rw [← hp]; omega)]
      · have hc2 := c2_ge_f (a := p) (b := c) (by omega) (by omega) hc2
        refine ar_go M_Q_solve 3 _ 46 _ [some (.ref 19), some (.int (nI c)), some (.int (nI us)), some (.int (nI col)), some (.int (nI p))] _ [.int (nI us), .int (nI p), .ref 19] rfl ?_
        refine ar_CV M_Q_solve rfl rfl (Or.inl rfl) rfl rfl (Nat.le_of_ble_eq_true rfl) q1 M_Q_swapRows (Nat.le_of_ble_eq_true rfl) (c_Q_swapRows X (d + 1) _ hQ (by omega) (by omega)) (fun r1 h2 hq => ?_)
        obtain ⟨rfl, hf2, hQ2⟩ := hq
        refine ⟨hf2.1, ?_⟩
        have hQ20 := hQ2
        clear q1 q2 q3 q4 q5 q6 q7
        obtain ⟨q1, ⟨g2, q2, q3⟩, q4, q5, q6, q7⟩ := hQ20
        show ar Pg _ _ _ 49 [some (.ref 19), some (.int (nI c)), some (.int (nI us)), some (.int (nI col)), some (.int (nI p))] [] _ _
        refine ar_go M_Q_solve 4 _ 53 _ [some (.ref 19), some (.int (nI c)), some (.int (nI us)), some (.int (nI col)), some (.int (nI p))] _ [.ref 19, .int (nI col), .int (nI us), .ref 19] rfl ?_
        refine ar_get M_Q_solve rfl rfl q1 rfl ?_
        refine ar_go M_Q_solve 1 _ 57 _ [some (.ref 19), some (.int (nI c)), some (.int (nI us)), some (.int (nI col)), some (.int (nI p))] _ [.int (nI us), .ref 20, .int (nI col), .int (nI us), .ref 19] rfl ?_
        refine ar_aald M_Q_solve rfl q2 (Or.inl rfl) (vp_in_nI (by omega) (by decide)) (by rw [nI_clamp (n := us) (by omega)]; exact q3 us (by omega)) ?_
        have hx1 := q5 us (by omega)
        refine ar_go M_Q_solve 1 _ 59 _ [some (.ref 19), some (.int (nI c)), some (.int (nI us)), some (.int (nI col)), some (.int (nI p))] _ [.int (nI col), .ref (swN ro p us us), .int (nI col), .int (nI us), .ref 19] rfl ?_
        refine ar_lald M_Q_solve rfl hx1 (vp_in_nI (by omega) (by decide)) ?_
        rw [nI_clamp (n := col) (by omega)]
        have hpv := q6 us (by omega) col (by omega)
        refine ar_CS M_Q_solve rfl rfl (Nat.le_of_ble_eq_true rfl) rfl rfl (Nat.le_of_ble_eq_true rfl) M_F_inverse (Nat.le_of_ble_eq_true rfl) (c_F_inverse X (d + 1) _ (by omega)) (fun r1 h1 hq => ?_)
        obtain ⟨rfl, rfl⟩ := hq
        refine ⟨rfl, ?_⟩
        show ar Pg _ _ _ 63 [some (.ref 19), some (.int (nI c)), some (.int (nI us)), some (.int (nI col)), some (.int (nI p))] [.long (lN (mf_iv (swM Mc p us us col))), .int (nI col), .int (nI us), .ref 19] _ _
        refine ar_CV M_Q_solve rfl rfl (Or.inl rfl) rfl rfl (Nat.le_of_ble_eq_true rfl) q1 M_Q_scaleRow (Nat.le_of_ble_eq_true rfl) (c_Q_scaleRow X d _ hQ2 (by omega) (by omega) (by omega) (Nat.lt_trans (mf_iv_lt _) (by decide))) (fun r1 h3 hq => ?_)
        obtain ⟨rfl, hf3, hQ3⟩ := hq
        refine ⟨hf3.1, ?_⟩
        have q1 := hQ3.1
        show ar Pg _ _ _ 66 [some (.ref 19), some (.int (nI c)), some (.int (nI us)), some (.int (nI col)), some (.int (nI p))] [] _ _
        refine ar_go M_Q_solve 3 _ 69 _ [some (.ref 19), some (.int (nI c)), some (.int (nI us)), some (.int (nI col)), some (.int (nI p))] _ [.int (nI col), .int (nI us), .ref 19] rfl ?_
        refine ar_CV M_Q_solve rfl rfl (Or.inl rfl) rfl rfl (Nat.le_of_ble_eq_true rfl) q1 M_Q_clearColumn (Nat.le_of_ble_eq_true rfl) (c_Q_clearColumn X d _ hQ3 (by omega) (by omega) (by omega)) (fun r1 h4 hq => ?_)
        obtain ⟨rfl, hf4, hQ4⟩ := hq
        refine ⟨hf4.1, ?_⟩
        clear q1 q2 q3 q4 q5 q6 q7
        have hQ40 := hQ4
        obtain ⟨q1, ⟨g4, q2, q3⟩, q4, q5, q6, q7⟩ := hQ40
        show ar Pg _ _ _ 72 [some (.ref 19), some (.int (nI c)), some (.int (nI us)), some (.int (nI col)), some (.int (nI p))] [] _ _
        refine ar_go M_Q_solve 1 _ 73 _ [some (.ref 19), some (.int (nI c)), some (.int (nI us)), some (.int (nI col)), some (.int (nI p))] _ [.ref 19] rfl ?_
        refine ar_get M_Q_solve rfl rfl q1 rfl ?_
        refine ar_go M_Q_solve 2 _ 78 _ [some (.ref 19), some (.int (nI c)), some (.int (nI us)), some (.int (nI col)), some (.int (nI p))] _ [.int (nI us), .int (nI col), .ref 37] rfl ?_
        refine ar_iast M_Q_solve rfl q7 (vp_in_nI (by omega) (by decide)) (fun h5 hf5 he => ?_)
        rw [nI_clamp (n := col) (by omega)] at he
        have q71 : h5[37]? = some (.inl (0, 16, .inl (fun i => ruI (updU ukc col (some us) i)))) := by rw [he]; exact congrArg (fun z => some (Sum.inl (0, 16, Sum.inl z))) (upd_ruI ukc col (some us))
        refine ar_go M_Q_solve 1 _ 82 _ [some (.ref 19), some (.int (nI c)), some (.int (nI us + Int32.ofInt 1)), some (.int (nI col)), some (.int (nI p))] _ [] rfl ?_
        rw [show nI us + Int32.ofInt 1 = nI (us + 1) from nI_add us 1]
        refine ar_go M_Q_solve 1 _ 85 _ [some (.ref 19), some (.int (nI c)), some (.int (nI (us + 1))), some (.int (nI col + Int32.ofInt 1)), some (.int (nI p))] _ [] rfl ?_
        rw [show nI col + Int32.ofInt 1 = nI (col + 1) from nI_add col 1]
        refine ar_go M_Q_solve 1 _ 17 _ [some (.ref 19), some (.int (nI c)), some (.int (nI (us + 1))), some (.int (nI (col + 1))), some (.int (nI p))] _ [] rfl ?_
        refine ih (col + 1) (us + 1) _ (updU ukc col (some us)) (swN ro p us) h5 _ (by omega) (by omega) (by omega) ?_ ⟨hf5.at q1 (by simp), ⟨g4, hf5.at q2 (by simp), q3⟩, q4, fun i hi => hf5.at (q5 i hi) (by have := q4.1 i hi; simp; omega), q6, q71⟩ (hF.tr (hf2.tr (hf3.tr (hf4.tr (hf5.mono (l := eqL) (by intro k hk; rw [List.mem_singleton] at hk; rw [mem_eqL, hk]; omega)) (l := eqL) (fun _ z => z) (fun _ z => z)) (l := eqL) (fun _ z => z) (fun _ z => z)) (l := eqL) (fun _ z => z) (fun _ z => z)) (fun _ z => z) (fun _ z => z))
        rw [gj, hg, gjs, if_pos (by rw [← hp]; omega)]
        simp only [← hp]
theorem c_Q_solve (X : am_X) (d : Nat) (h : am_H) {ro : Nat → Nat} {c c0 : Nat} {M : Nat → Nat → Nat} {uk : Nat → Option Nat} (hQ : isQ h ro c0 M uk) (hc : c ≤ 16) : ar Pg X (d + 1 + 1) n_Q_solve 0 [some (.ref 19), some (.int (nI c)), none, none, none] [] h (fun rr h' => ∃ ro', rr = some (.int (bi (rs0 (gj c M uk c).1 c (c - (gj c M uk c).2.2) (gj c M uk c).2.2))) ∧ fr eqL h h' ∧ isQ h' ro' c (gj c M uk c).1 (gj c M uk c).2.1) := by
  obtain ⟨q1, ⟨g, q2, q3⟩, q4, q5, q6, q7⟩ := hQ
  have q20 := q2
  refine ar_go M_Q_solve 2 _ 2 _ [some (.ref 19), some (.int (nI c)), none, none, none] _ [.int (nI c), .ref 19] rfl ?_
  refine ar_put M_Q_solve rfl rfl q1 (Nat.le_of_ble_eq_true rfl) rfl (Nat.le_of_ble_eq_true rfl) (fun h2 hf he => ?_)
  have q7 := hf.at q7 (by simp only [List.mem_cons, List.not_mem_nil, or_false]; omega)
  have q1 : h2[19]? = some (.inr (3, [.ref 20, .ref 37, .int (nI c)])) := he
  have k1 := hf
  refine ar_go M_Q_solve 1 _ 6 _ [some (.ref 19), some (.int (nI c)), none, none, none] _ [.ref 19] rfl ?_
  refine ar_get M_Q_solve rfl rfl q1 rfl ?_
  refine ar_go M_Q_solve 1 _ 10 _ [some (.ref 19), some (.int (nI c)), none, none, none] _ [.int (-1), .ref 37] rfl ?_
  refine ar_CS M_Q_solve rfl rfl (Nat.le_of_ble_eq_true rfl) rfl rfl (Nat.le_of_ble_eq_true rfl) M_J_fill (Nat.le_of_ble_eq_true rfl) (c_J_fill X (d + 1) _ q7) (fun r1 h3 hq => ?_)
  obtain ⟨rfl, hf2, q72⟩ := hq
  refine ⟨hf2.1, ?_⟩
  show ar Pg _ _ _ 13 [some (.ref 19), some (.int (nI c)), none, none, none] [] _ _
  refine ar_go M_Q_solve 4 _ 17 _ [some (.ref 19), some (.int (nI c)), some (.int (nI 0)), some (.int (nI 0)), none] _ [] rfl ?_
  have hF : fr [19, 37] h h3 := k1.tr hf2 (by simp) (by simp)
  refine c_Q_so_loop X d h hc (c + 1) 0 0 M (flU uk 16) ro h3 _ (by omega) (by omega) (by omega) rfl ⟨hf2.at q1 (by simp), ⟨g, hF.at q20 (by simp), q3⟩, q4, fun i hi => hF.at (q5 i hi) (by have := q4.1 i hi; simp; omega), q6, q72⟩ (hF.mono (by intro k hk; rw [mem_eqL]; simp at hk; omega))
end
section
/-! Fraction: object 10, up 11, low 13, workOne 15, workTwo 17, equations 19, samples 38, 39 -/
def isF (h : am_H) : Prop := h[10]? = some (.inr (4, [.ref 11, .ref 13, .ref 15, .ref 17, .ref 19, .ref 38, .ref 39]))
def lt18 (A : Nat → Nat) : Prop := ∀ i, i < 18 → A i < 2147483647
def tk (S : Nat → Nat) (l : Bk) : Nat → Nat → Nat
  | 0 => S
  | i + 1 => updN (tk S l i) i (smp l (1073741824 + i) l.length)
theorem tk_18 {S : Nat → Nat} (h : lt18 S) (l : Bk) : ∀ i, lt18 (tk S l i)
  | 0 => h
  | i + 1 => fun j hj => by
    rw [tk]
    unfold updN
    split
    · exact smp_lt _ _ _
    · exact tk_18 h l i j hj
theorem tk_at (S : Nat → Nat) (l : Bk) : ∀ n i, i < n → tk S l n i = smp l (1073741824 + i) l.length
  | 0, i, h => absurd h (Nat.not_lt_zero _)
  | n + 1, i, h => by
    rw [tk]
    unfold updN
    split
    · subst_vars; rfl
    · exact tk_at S l n i (by omega)
theorem c_A_part0 (X : am_X) (d : Nat) (h : am_H) (hO : isF h) : ar Pg X d n_A_part 0 [some (.ref 10), some (.int (nI 0))] [] h (fun rr h' => rr = some (.ref 11) ∧ h' = h) := by
  unfold isF at hO
  refine ar_go M_A_part 1 _ 1 _ [some (.ref 10), some (.int (nI 0))] _ [.int (nI 0)] rfl ?_
  refine ar_if M_A_part rfl rfl (fun z => absurd z (by decide)) (fun _ => ?_)
  refine ar_go M_A_part 1 _ 5 _ [some (.ref 10), some (.int (nI 0))] _ [.ref 10] rfl ?_
  refine ar_get M_A_part rfl rfl hO rfl ?_
  refine ar_go M_A_part 1 _ 15 _ [some (.ref 10), some (.int (nI 0))] _ [.ref 11] rfl ?_
  exact ar_R M_A_part rfl rfl rfl rfl (⟨rfl, rfl⟩)
theorem c_A_part1 (X : am_X) (d : Nat) (h : am_H) (hO : isF h) : ar Pg X d n_A_part 0 [some (.ref 10), some (.int (nI 1))] [] h (fun rr h' => rr = some (.ref 13) ∧ h' = h) := by
  unfold isF at hO
  refine ar_go M_A_part 1 _ 1 _ [some (.ref 10), some (.int (nI 1))] _ [.int (nI 1)] rfl ?_
  refine ar_if M_A_part rfl rfl (fun _ => ?_) (fun z => absurd z (by decide))
  refine ar_go M_A_part 1 _ 12 _ [some (.ref 10), some (.int (nI 1))] _ [.ref 10] rfl ?_
  refine ar_get M_A_part rfl rfl hO rfl ?_
  exact ar_R M_A_part rfl rfl rfl rfl (⟨rfl, rfl⟩)
theorem c_A_ts_loop (X : am_X) (d : Nat) (h : am_H) {ra rb pts : Nat} {la lb : Bk} {SA SB : Nat → Nat} (hra : 40 ≤ ra ∧ ra < 56) (hrb : 40 ≤ rb ∧ rb < 56) (hWa : bkW la) (hWb : bkW lb) (hpts : pts ≤ 18) : ∀ (n i : Nat) (h1 : am_H), pts - i < n → i ≤ pts → isF h1 → isR h1 ra la → isR h1 rb lb → isLA h1 38 18 (tk SA la i) → isLA h1 39 18 (tk SB lb i) → fr [38, 39] h h1 → ar Pg X (d + 1 + 1) n_A_takeSamples 3 [some (.ref 10), some (.ref ra), some (.ref rb), some (.int (nI pts)), some (.int (nI i))] [] h1 (fun rr h' => rr = none ∧ fr [38, 39] h h' ∧ isLA h' 38 18 (tk SA la pts) ∧ isLA h' 39 18 (tk SB lb pts)) := by
  intro n
  induction n with
  | zero => intro i h1 hn; omega
  | succ n ih =>
    intro i h1 hn hi hO hRa hRb h38 h39 hF
    unfold isF at hO
    unfold isLA at h38 h39
    refine ar_go M_A_takeSamples 2 _ 6 _ [some (.ref 10), some (.ref ra), some (.ref rb), some (.int (nI pts)), some (.int (nI i))] _ [.int (nI pts), .int (nI i)] rfl ?_
    refine ar_icmp M_A_takeSamples rfl rfl (fun hc => ?_) (fun hc => ?_)
    · have hc := c2_ge_t (a := i) (b := pts) (by omega) (by omega) hc
      have hi2 : i = pts := by omega
      rw [hi2] at h38 h39
      exact ar_R M_A_takeSamples rfl rfl rfl rfl (⟨rfl, hF, h38, h39⟩)
    · have hc := c2_ge_f (a := i) (b := pts) (by omega) (by omega) hc
      refine ar_go M_A_takeSamples 1 _ 10 _ [some (.ref 10), some (.ref ra), some (.ref rb), some (.int (nI pts)), some (.int (nI i))] _ [.ref 10] rfl ?_
      refine ar_get M_A_takeSamples rfl rfl hO rfl ?_
      refine ar_go M_A_takeSamples 5 _ 22 _ [some (.ref 10), some (.ref ra), some (.ref rb), some (.int (nI pts)), some (.int (nI i))] _ [.long ((nI i).toInt64), .long (lN 1073741824), .ref ra, .int (nI i), .ref 38] rfl ?_
      refine ar_top (w := .long (lN i)) (congrArg Value.long (nI_l (by omega))) ?_
      refine ar_go M_A_takeSamples 1 _ 23 _ [some (.ref 10), some (.ref ra), some (.ref rb), some (.int (nI pts)), some (.int (nI i))] _ [.long (lN 1073741824 + lN i), .ref ra, .int (nI i), .ref 38] rfl ?_
      refine ar_top (w := .long (lN (1073741824 + i))) (congrArg Value.long (lN_add 1073741824 i)) ?_
      refine ar_CV M_A_takeSamples rfl rfl (Or.inl rfl) rfl rfl (Nat.le_of_ble_eq_true rfl) hRa.2.1 M_R_sampleAt (Nat.le_of_ble_eq_true rfl) (c_R_sampleAt X d _ hRa (by omega) hWa (by omega) (by omega)) (fun r1 h1 hq => ?_)
      obtain ⟨rfl, rfl⟩ := hq
      refine ⟨rfl, ?_⟩
      show ar Pg _ _ _ 26 [some (.ref 10), some (.ref ra), some (.ref rb), some (.int (nI pts)), some (.int (nI i))] [.long (lN (smp la (1073741824 + i) la.length)), .int (nI i), .ref 38] _ _
      refine ar_last M_A_takeSamples rfl h38 (vp_in_nI (by omega) (by decide)) (fun h2 hf he => ?_)
      rw [nI_clamp (n := i) (by omega)] at he
      rw [updL_lN] at he
      have hO := hf.at hO (by simp only [List.mem_cons, List.not_mem_nil, or_false]; omega)
      have h39 := hf.at h39 (by simp only [List.mem_cons, List.not_mem_nil, or_false]; omega)
      have h38 : h2[38]? = some (.inl (1, 18, .inr (.inl (fun z9 => lN ((updN (tk SA la i) i (smp la (1073741824 + i) la.length)) z9))))) := he
      have k1 := hf
      have hRa := hRa.fr hf (by simp; omega) (by simp; omega) (by simp; omega) (by simp; omega)
      have hRb := hRb.fr hf (by simp; omega) (by simp; omega) (by simp; omega) (by simp; omega)
      refine ar_go M_A_takeSamples 1 _ 28 _ [some (.ref 10), some (.ref ra), some (.ref rb), some (.int (nI pts)), some (.int (nI i))] _ [.ref 10] rfl ?_
      refine ar_get M_A_takeSamples rfl rfl hO rfl ?_
      refine ar_go M_A_takeSamples 5 _ 40 _ [some (.ref 10), some (.ref ra), some (.ref rb), some (.int (nI pts)), some (.int (nI i))] _ [.long ((nI i).toInt64), .long (lN 1073741824), .ref rb, .int (nI i), .ref 39] rfl ?_
      refine ar_top (w := .long (lN i)) (congrArg Value.long (nI_l (by omega))) ?_
      refine ar_go M_A_takeSamples 1 _ 41 _ [some (.ref 10), some (.ref ra), some (.ref rb), some (.int (nI pts)), some (.int (nI i))] _ [.long (lN 1073741824 + lN i), .ref rb, .int (nI i), .ref 39] rfl ?_
      refine ar_top (w := .long (lN (1073741824 + i))) (congrArg Value.long (lN_add 1073741824 i)) ?_
      refine ar_CV M_A_takeSamples rfl rfl (Or.inl rfl) rfl rfl (Nat.le_of_ble_eq_true rfl) hRb.2.1 M_R_sampleAt (Nat.le_of_ble_eq_true rfl) (c_R_sampleAt X d _ hRb (by omega) hWb (by omega) (by omega)) (fun r1 h1 hq => ?_)
      obtain ⟨rfl, rfl⟩ := hq
      refine ⟨rfl, ?_⟩
      show ar Pg _ _ _ 44 [some (.ref 10), some (.ref ra), some (.ref rb), some (.int (nI pts)), some (.int (nI i))] [.long (lN (smp lb (1073741824 + i) lb.length)), .int (nI i), .ref 39] _ _
      refine ar_last M_A_takeSamples rfl h39 (vp_in_nI (by omega) (by decide)) (fun h3 hf he => ?_)
      rw [nI_clamp (n := i) (by omega)] at he
      rw [updL_lN] at he
      have hO := hf.at hO (by simp only [List.mem_cons, List.not_mem_nil, or_false]; omega)
      have h38 := hf.at h38 (by simp only [List.mem_cons, List.not_mem_nil, or_false]; omega)
      have h39 : h3[39]? = some (.inl (1, 18, .inr (.inl (fun z9 => lN ((updN (tk SB lb i) i (smp lb (1073741824 + i) lb.length)) z9))))) := he
      have hRa := hRa.fr hf (by simp; omega) (by simp; omega) (by simp; omega) (by simp; omega)
      have hRb := hRb.fr hf (by simp; omega) (by simp; omega) (by simp; omega) (by simp; omega)
      refine ar_go M_A_takeSamples 1 _ 48 _ [some (.ref 10), some (.ref ra), some (.ref rb), some (.int (nI pts)), some (.int (nI i + Int32.ofInt 1))] _ [] rfl ?_
      rw [show nI i + Int32.ofInt 1 = nI (i + 1) from nI_add i 1]
      refine ar_go M_A_takeSamples 1 _ 3 _ [some (.ref 10), some (.ref ra), some (.ref rb), some (.int (nI pts)), some (.int (nI (i + 1)))] _ [] rfl ?_
      exact ih (i + 1) h3 (by omega) (by omega) hO hRa hRb h38 h39 (hF.tr (k1.tr hf (l := [38, 39]) (by simp) (by simp)) (by simp) (by simp))
theorem c_A_takeSamples (X : am_X) (d : Nat) (h : am_H) {ra rb pts : Nat} {la lb : Bk} {SA SB : Nat → Nat} (hra : 40 ≤ ra ∧ ra < 56) (hrb : 40 ≤ rb ∧ rb < 56) (hWa : bkW la) (hWb : bkW lb) (hpts : pts ≤ 18) (hO : isF h) (hRa : isR h ra la) (hRb : isR h rb lb) (h38 : isLA h 38 18 SA) (h39 : isLA h 39 18 SB) : ar Pg X (d + 1 + 1) n_A_takeSamples 0 [some (.ref 10), some (.ref ra), some (.ref rb), some (.int (nI pts)), none] [] h (fun rr h' => rr = none ∧ fr [38, 39] h h' ∧ isLA h' 38 18 (tk SA la pts) ∧ isLA h' 39 18 (tk SB lb pts)) := by
  refine ar_go M_A_takeSamples 2 _ 3 _ [some (.ref 10), some (.ref ra), some (.ref rb), some (.int (nI pts)), some (.int (nI 0))] _ [] rfl ?_
  exact c_A_ts_loop X d h hra hrb hWa hWb hpts (pts + 1) 0 h (by omega) (by omega) hO hRa hRb h38 h39 (fr.rf _ _)
theorem lcmpE {a b : Nat} (ha : a < 2 ^ 31) (hb : b < 2 ^ 31) : lg_cmp (lN a) (lN b) = if a = b then 0 else if b < a then 1 else -1 := by
  unfold lg_cmp
  by_cases h : b < a
  · rw [if_pos ((lN_lt hb ha).mpr h), if_neg (by omega), if_pos h]
  · rw [if_neg (fun z => h ((lN_lt hb ha).mp z))]
    by_cases e : a = b
    · rw [if_pos (by rw [e]), if_pos e]
    · rw [if_neg (fun z => e ((lN_eq ha hb).mp z)), if_neg e, if_neg h]
def fts (U : Nat → Nat) (ku : Nat) (W : Nat → Nat) (kw : Nat) (SA SB : Nat → Nat) (k : Nat) : Bool := decide (hvS U (1073741824 + k) ku 0 * SB k % 2147483647 = hvS W (1073741824 + k) kw 0 * SA k % 2147483647)
def ftA (U : Nat → Nat) (ku : Nat) (W : Nat → Nat) (kw : Nat) (SA SB : Nat → Nat) : Nat → Nat → Bool
  | 0, _ => true
  | n + 1, k => if fts U ku W kw SA SB k = true then ftA U ku W kw SA SB n (k + 1) else false
theorem c_A_fs_loop (X : am_X) (d : Nat) (h : am_H) {ku kw pts : Nat} {U W SA SB : Nat → Nat} (hO : isF h) (hU : isP h 11 ku U) (hW : isP h 13 kw W) (h38 : isLA h 38 18 SA) (h39 : isLA h 39 18 SB) (hSA : lt18 SA) (hSB : lt18 SB) (hpts : pts ≤ 18) : ∀ (n k : Nat) (x3 x5 x7 : Option Value), k + n = pts → ar Pg X (d + 1 + 1) n_A_fitsSamples 2 [some (.ref 10), some (.int (nI pts)), some (.int (nI k)), x3, none, x5, none, x7, none] [] h (fun rr h' => rr = some (.int (bi (ftA U ku W kw SA SB n k))) ∧ h' = h) := by
  unfold isF at hO
  unfold isLA at h38 h39
  intro n
  induction n with
  | zero =>
    intro k x3 x5 x7 hk
    have hk : k = pts := by omega
    subst hk
    refine ar_go M_A_fitsSamples 2 _ 4 _ [some (.ref 10), some (.int (nI k)), some (.int (nI k)), x3, none, x5, none, x7, none] _ [.int (nI k), .int (nI k)] rfl ?_
    refine ar_icmp M_A_fitsSamples rfl rfl (fun _ => ?_) (fun hc => ?_)
    · refine ar_go M_A_fitsSamples 1 _ 69 _ [some (.ref 10), some (.int (nI k)), some (.int (nI k)), x3, none, x5, none, x7, none] _ [.int (nI 1)] rfl ?_
      exact ar_zret M_A_fitsSamples rfl rfl (Or.inr rfl) ⟨rfl, rfl⟩
    · have hc := c2_ge_f (a := k) (b := k) (by omega) (by omega) hc
      omega
  | succ n ih =>
    intro k x3 x5 x7 hk
    refine ar_go M_A_fitsSamples 2 _ 4 _ [some (.ref 10), some (.int (nI pts)), some (.int (nI k)), x3, none, x5, none, x7, none] _ [.int (nI pts), .int (nI k)] rfl ?_
    refine ar_icmp M_A_fitsSamples rfl rfl (fun hc => ?_) (fun hc => ?_)
    · have hc := c2_ge_t (a := k) (b := pts) (by omega) (by omega) hc
      omega
    · have hc := c2_ge_f (a := k) (b := pts) (by omega) (by omega) hc
      refine ar_go M_A_fitsSamples 3 _ 12 _ [some (.ref 10), some (.int (nI pts)), some (.int (nI k)), x3, none, x5, none, x7, none] _ [.long ((nI k).toInt64), .long (lN 1073741824)] rfl ?_
      refine ar_top (w := .long (lN k)) (congrArg Value.long (nI_l (by omega))) ?_
      refine ar_go M_A_fitsSamples 1 _ 13 _ [some (.ref 10), some (.int (nI pts)), some (.int (nI k)), x3, none, x5, none, x7, none] _ [.long (lN 1073741824 + lN k)] rfl ?_
      refine ar_top (w := .long (lN (1073741824 + k))) (congrArg Value.long (lN_add 1073741824 k)) ?_
      refine ar_go M_A_fitsSamples 2 _ 15 _ [some (.ref 10), some (.int (nI pts)), some (.int (nI k)), some (.long (lN (1073741824 + k))), none, x5, none, x7, none] _ [.ref 10] rfl ?_
      refine ar_get M_A_fitsSamples rfl rfl hO rfl ?_
      refine ar_go M_A_fitsSamples 1 _ 19 _ [some (.ref 10), some (.int (nI pts)), some (.int (nI k)), some (.long (lN (1073741824 + k))), none, x5, none, x7, none] _ [.long (lN (1073741824 + k)), .ref 11] rfl ?_
      refine ar_CV M_A_fitsSamples rfl rfl (Or.inl rfl) rfl rfl (Nat.le_of_ble_eq_true rfl) hU.2.1 M_Y_valueAt (Nat.le_of_ble_eq_true rfl) (c_Y_valueAt X d _ hU (by decide) (by omega)) (fun r1 h1 hq => ?_)
      obtain ⟨rfl, rfl⟩ := hq
      refine ⟨rfl, ?_⟩
      show ar Pg _ _ _ 22 [some (.ref 10), some (.int (nI pts)), some (.int (nI k)), some (.long (lN (1073741824 + k))), none, x5, none, x7, none] [.long (lN (hvS U (1073741824 + k) ku 0))] _ _
      have hv1 := hvS_lt U (1073741824 + k) ku 0
      have hv2 := hvS_lt W (1073741824 + k) kw 0
      have hsa := hSA k (by omega)
      have hsb := hSB k (by omega)
      refine ar_go M_A_fitsSamples 1 _ 23 _ [some (.ref 10), some (.int (nI pts)), some (.int (nI k)), some (.long (lN (1073741824 + k))), none, x5, none, x7, none] _ [.ref 10, .long (lN (hvS U (1073741824 + k) ku 0))] rfl ?_
      refine ar_get M_A_fitsSamples rfl rfl hO rfl ?_
      refine ar_go M_A_fitsSamples 1 _ 27 _ [some (.ref 10), some (.int (nI pts)), some (.int (nI k)), some (.long (lN (1073741824 + k))), none, x5, none, x7, none] _ [.int (nI k), .ref 39, .long (lN (hvS U (1073741824 + k) ku 0))] rfl ?_
      refine ar_lald M_A_fitsSamples rfl h39 (vp_in_nI (by omega) (by decide)) ?_
      rw [nI_clamp (n := k) (by omega)]
      refine ar_CS M_A_fitsSamples rfl rfl (Nat.le_of_ble_eq_true rfl) rfl rfl (Nat.le_of_ble_eq_true rfl) M_F_times (Nat.le_of_ble_eq_true rfl) (c_F_times X (d + 1) _ (by omega) (by omega)) (fun r1 h1 hq => ?_)
      obtain ⟨rfl, rfl⟩ := hq
      refine ⟨rfl, ?_⟩
      show ar Pg _ _ _ 31 [some (.ref 10), some (.int (nI pts)), some (.int (nI k)), some (.long (lN (1073741824 + k))), none, x5, none, x7, none] [.long (lN (hvS U (1073741824 + k) ku 0 * SB k % 2147483647))] _ _
      refine ar_go M_A_fitsSamples 2 _ 34 _ [some (.ref 10), some (.int (nI pts)), some (.int (nI k)), some (.long (lN (1073741824 + k))), none, some (.long (lN (hvS U (1073741824 + k) ku 0 * SB k % 2147483647))), none, x7, none] _ [.ref 10] rfl ?_
      refine ar_get M_A_fitsSamples rfl rfl hO rfl ?_
      refine ar_go M_A_fitsSamples 1 _ 38 _ [some (.ref 10), some (.int (nI pts)), some (.int (nI k)), some (.long (lN (1073741824 + k))), none, some (.long (lN (hvS U (1073741824 + k) ku 0 * SB k % 2147483647))), none, x7, none] _ [.long (lN (1073741824 + k)), .ref 13] rfl ?_
      refine ar_CV M_A_fitsSamples rfl rfl (Or.inl rfl) rfl rfl (Nat.le_of_ble_eq_true rfl) hW.2.1 M_Y_valueAt (Nat.le_of_ble_eq_true rfl) (c_Y_valueAt X d _ hW (by decide) (by omega)) (fun r1 h1 hq => ?_)
      obtain ⟨rfl, rfl⟩ := hq
      refine ⟨rfl, ?_⟩
      show ar Pg _ _ _ 41 [some (.ref 10), some (.int (nI pts)), some (.int (nI k)), some (.long (lN (1073741824 + k))), none, some (.long (lN (hvS U (1073741824 + k) ku 0 * SB k % 2147483647))), none, x7, none] [.long (lN (hvS W (1073741824 + k) kw 0))] _ _
      refine ar_go M_A_fitsSamples 1 _ 42 _ [some (.ref 10), some (.int (nI pts)), some (.int (nI k)), some (.long (lN (1073741824 + k))), none, some (.long (lN (hvS U (1073741824 + k) ku 0 * SB k % 2147483647))), none, x7, none] _ [.ref 10, .long (lN (hvS W (1073741824 + k) kw 0))] rfl ?_
      refine ar_get M_A_fitsSamples rfl rfl hO rfl ?_
      refine ar_go M_A_fitsSamples 1 _ 46 _ [some (.ref 10), some (.int (nI pts)), some (.int (nI k)), some (.long (lN (1073741824 + k))), none, some (.long (lN (hvS U (1073741824 + k) ku 0 * SB k % 2147483647))), none, x7, none] _ [.int (nI k), .ref 38, .long (lN (hvS W (1073741824 + k) kw 0))] rfl ?_
      refine ar_lald M_A_fitsSamples rfl h38 (vp_in_nI (by omega) (by decide)) ?_
      rw [nI_clamp (n := k) (by omega)]
      refine ar_CS M_A_fitsSamples rfl rfl (Nat.le_of_ble_eq_true rfl) rfl rfl (Nat.le_of_ble_eq_true rfl) M_F_times (Nat.le_of_ble_eq_true rfl) (c_F_times X (d + 1) _ (by omega) (by omega)) (fun r1 h1 hq => ?_)
      obtain ⟨rfl, rfl⟩ := hq
      refine ⟨rfl, ?_⟩
      show ar Pg _ _ _ 50 [some (.ref 10), some (.int (nI pts)), some (.int (nI k)), some (.long (lN (1073741824 + k))), none, some (.long (lN (hvS U (1073741824 + k) ku 0 * SB k % 2147483647))), none, x7, none] [.long (lN (hvS W (1073741824 + k) kw 0 * SA k % 2147483647))] _ _
      have hm1 : hvS U (1073741824 + k) ku 0 * SB k % 2147483647 < 2147483647 := Nat.mod_lt _ (by decide)
      have hm2 : hvS W (1073741824 + k) kw 0 * SA k % 2147483647 < 2147483647 := Nat.mod_lt _ (by decide)
      refine ar_go M_A_fitsSamples 4 _ 57 _ [some (.ref 10), some (.int (nI pts)), some (.int (nI k)), some (.long (lN (1073741824 + k))), none, some (.long (lN (hvS U (1073741824 + k) ku 0 * SB k % 2147483647))), none, some (.long (lN (hvS W (1073741824 + k) kw 0 * SA k % 2147483647))), none] _ [.int (lg_cmp (lN (hvS U (1073741824 + k) ku 0 * SB k % 2147483647)) (lN (hvS W (1073741824 + k) kw 0 * SA k % 2147483647)))] rfl ?_
      refine ar_top (w := .int (if hvS U (1073741824 + k) ku 0 * SB k % 2147483647 = hvS W (1073741824 + k) kw 0 * SA k % 2147483647 then 0 else if hvS W (1073741824 + k) kw 0 * SA k % 2147483647 < hvS U (1073741824 + k) ku 0 * SB k % 2147483647 then 1 else -1)) (congrArg Value.int (lcmpE (by omega) (by omega))) ?_
      by_cases h0 : hvS U (1073741824 + k) ku 0 * SB k % 2147483647 = hvS W (1073741824 + k) kw 0 * SA k % 2147483647
      · rw [if_pos h0]
        refine ar_if M_A_fitsSamples rfl rfl (fun _ => ?_) (fun z => absurd z (by decide))
        refine ar_go M_A_fitsSamples 1 _ 65 _ [some (.ref 10), some (.int (nI pts)), some (.int (nI k + Int32.ofInt 1)), some (.long (lN (1073741824 + k))), none, some (.long (lN (hvS U (1073741824 + k) ku 0 * SB k % 2147483647))), none, some (.long (lN (hvS W (1073741824 + k) kw 0 * SA k % 2147483647))), none] _ [] rfl ?_
        rw [show nI k + Int32.ofInt 1 = nI (k + 1) from nI_add k 1]
        refine ar_go M_A_fitsSamples 1 _ 2 _ [some (.ref 10), some (.int (nI pts)), some (.int (nI (k + 1))), some (.long (lN (1073741824 + k))), none, some (.long (lN (hvS U (1073741824 + k) ku 0 * SB k % 2147483647))), none, some (.long (lN (hvS W (1073741824 + k) kw 0 * SA k % 2147483647))), none] _ [] rfl ?_
        rw [ftA, if_pos (show fts U ku W kw SA SB k = true from decide_eq_true h0)]
        exact ih (k + 1) _ _ _ (by omega)
      · rw [if_neg h0]
        refine ar_if M_A_fitsSamples rfl rfl (fun z => ?_) (fun _ => ?_)
        · split at z <;> exact absurd z (by decide)
        · rw [ftA, if_neg (show ¬ fts U ku W kw SA SB k = true from fun z => h0 (of_decide_eq_true z))]
          refine ar_go M_A_fitsSamples 1 _ 61 _ [some (.ref 10), some (.int (nI pts)), some (.int (nI k)), some (.long (lN (1073741824 + k))), none, some (.long (lN (hvS U (1073741824 + k) ku 0 * SB k % 2147483647))), none, some (.long (lN (hvS W (1073741824 + k) kw 0 * SA k % 2147483647))), none] _ [.int (nI 0)] rfl ?_
          exact ar_zret M_A_fitsSamples rfl rfl (Or.inl rfl) (⟨rfl, rfl⟩)
theorem c_A_fitsSamples (X : am_X) (d : Nat) (h : am_H) {ku kw pts : Nat} {U W SA SB : Nat → Nat} (hO : isF h) (hU : isP h 11 ku U) (hW : isP h 13 kw W) (h38 : isLA h 38 18 SA) (h39 : isLA h 39 18 SB) (hSA : lt18 SA) (hSB : lt18 SB) (hpts : pts ≤ 18) : ar Pg X (d + 1 + 1) n_A_fitsSamples 0 [some (.ref 10), some (.int (nI pts)), none, none, none, none, none, none, none] [] h (fun rr h' => rr = some (.int (bi (ftA U ku W kw SA SB pts 0))) ∧ h' = h) := by
  refine ar_go M_A_fitsSamples 2 _ 2 _ [some (.ref 10), some (.int (nI pts)), some (.int (nI 0)), none, none, none, none, none, none] _ [] rfl ?_
  exact c_A_fs_loop X d h hO hU hW h38 h39 hSA hSB hpts pts 0 none none none (by omega)
end
section
/-! Fraction: find -/
def nN (m na nb : Nat) : Nat := if (m + nb - na) % 2 = 0 then m else m - 1
def uN (m na nb : Nat) : Nat := (nN m na nb + na - nb) / 2
def lN2 (m na nb : Nat) : Nat := (nN m na nb + nb - na) / 2
theorem nN_facts {m na nb : Nat} (h1 : na ≤ nb + m) (h2 : nb ≤ na + m) (hm : 1 ≤ m) : nN m na nb ≤ m ∧ na ≤ nb + nN m na nb ∧ nb ≤ na + nN m na nb ∧ uN m na nb + lN2 m na nb = nN m na nb ∧ (nN m na nb + na - nb) % 2 = 0 ∧ uN m na nb + nb = lN2 m na nb + na := by
  unfold uN lN2 nN
  split <;> omega
theorem df_gt {na nb m : Nat} (ha : na < 1000) (hb : nb < 1000) (hm : m < 1000) : am_c2 .gt (nI na - nI nb) (nI m) = decide (nb + m < na) := by
  unfold am_c2
  apply decide_eq_decide.mpr
  rw [Int32.lt_iff_toInt_lt, pk_sub_toInt (by omega) (by omega), nI_toInt (by omega)]
  omega
theorem df_ge {na nb m : Nat} (ha : na < 1000) (hb : nb < 1000) (hm : m < 1000) : am_c2 .ge (nI na - nI nb) (-nI m) = decide (nb ≤ na + m) := by
  unfold am_c2
  apply decide_eq_decide.mpr
  rw [Int32.le_iff_toInt_le, pk_sub_toInt (by omega) (by omega), sb_negT (by omega)]
  omega
theorem df_m {na nb m : Nat} (h : na ≤ nb + m) : nI m - (nI na - nI nb) = nI (m + nb - na) := by
  rw [← pk_sub (a := m + nb) (b := na) (by omega), ← nI_add m nb]
  grind
theorem df_p {na nb m : Nat} (h : nb ≤ na + m) : nI m + (nI na - nI nb) = nI (m + na - nb) := by
  rw [← pk_sub (a := m + na) (b := nb) (by omega), ← nI_add m na]
  grind
def sM (M : Nat → Nat → Nat) (SA SB : Nat → Nat) (u l : Nat) : Nat → Nat → Nat → Nat
  | 0 => M
  | k + 1 => updM (sM M SA SB u l k) k (srw (sM M SA SB u l k k) (1073741824 + k) (SA k) (SB k) u l)
theorem c_A_fi_loop (X : am_X) (d : Nat) (h : am_H) {ra rb m na nb n u l c0 : Nat} {ro : Nat → Nat} {M : Nat → Nat → Nat} {uk : Nat → Option Nat} {SA SB : Nat → Nat} {Q : Option Value → am_H → Prop} (hn : n ≤ 16) (hul : u + l < 17) (hSA : lt18 SA) (hSB : lt18 SB)
    (K : ∀ h1 : am_H, isQ h1 ro c0 (sM M SA SB u l n) uk → fr eqL h h1 → ar Pg X (d + 1 + 1) n_A_find 121 [some (.ref 10), some (.ref ra), some (.ref rb), some (.int (nI m)), some (.int (nI na - nI nb)), some (.int (nI n)), some (.int (nI u)), some (.int (nI l)), some (.int (nI n))] [] h1 Q) :
    ∀ (j k : Nat) (h1 : am_H), n - k < j → k ≤ n → isF h1 → isQ h1 ro c0 (sM M SA SB u l k) uk → isLA h1 38 18 SA → isLA h1 39 18 SB → fr eqL h h1 → ar Pg X (d + 1 + 1) n_A_find 74 [some (.ref 10), some (.ref ra), some (.ref rb), some (.int (nI m)), some (.int (nI na - nI nb)), some (.int (nI n)), some (.int (nI u)), some (.int (nI l)), some (.int (nI k))] [] h1 Q := by
  intro j
  induction j with
  | zero => intro k h1 hj; omega
  | succ j ih =>
    intro k h1 hj hk hO hQ h38 h39 hF
    unfold isF at hO
    unfold isLA at h38 h39
    refine ar_go M_A_find 2 _ 78 _ [some (.ref 10), some (.ref ra), some (.ref rb), some (.int (nI m)), some (.int (nI na - nI nb)), some (.int (nI n)), some (.int (nI u)), some (.int (nI l)), some (.int (nI k))] _ [.int (nI n), .int (nI k)] rfl ?_
    refine ar_icmp M_A_find rfl rfl (fun hc => ?_) (fun hc => ?_)
    · have hc := c2_ge_t (a := k) (b := n) (by omega) (by omega) hc
      have hi2 : k = n := by omega
      rw [hi2] at hQ ⊢
      exact K h1 hQ hF
    · have hc := c2_ge_f (a := k) (b := n) (by omega) (by omega) hc
      have hsa := hSA k (by omega)
      have hsb := hSB k (by omega)
      refine ar_go M_A_find 1 _ 82 _ [some (.ref 10), some (.ref ra), some (.ref rb), some (.int (nI m)), some (.int (nI na - nI nb)), some (.int (nI n)), some (.int (nI u)), some (.int (nI l)), some (.int (nI k))] _ [.ref 10] rfl ?_
      refine ar_get M_A_find rfl rfl hO rfl ?_
      refine ar_go M_A_find 4 _ 93 _ [some (.ref 10), some (.ref ra), some (.ref rb), some (.int (nI m)), some (.int (nI na - nI nb)), some (.int (nI n)), some (.int (nI u)), some (.int (nI l)), some (.int (nI k))] _ [.long ((nI k).toInt64), .long (lN 1073741824), .int (nI k), .ref 19] rfl ?_
      refine ar_top (w := .long (lN k)) (congrArg Value.long (nI_l (by omega))) ?_
      refine ar_go M_A_find 1 _ 94 _ [some (.ref 10), some (.ref ra), some (.ref rb), some (.int (nI m)), some (.int (nI na - nI nb)), some (.int (nI n)), some (.int (nI u)), some (.int (nI l)), some (.int (nI k))] _ [.long (lN 1073741824 + lN k), .int (nI k), .ref 19] rfl ?_
      refine ar_top (w := .long (lN (1073741824 + k))) (congrArg Value.long (lN_add 1073741824 k)) ?_
      refine ar_go M_A_find 1 _ 95 _ [some (.ref 10), some (.ref ra), some (.ref rb), some (.int (nI m)), some (.int (nI na - nI nb)), some (.int (nI n)), some (.int (nI u)), some (.int (nI l)), some (.int (nI k))] _ [.ref 10, .long (lN (1073741824 + k)), .int (nI k), .ref 19] rfl ?_
      refine ar_get M_A_find rfl rfl hO rfl ?_
      refine ar_go M_A_find 1 _ 100 _ [some (.ref 10), some (.ref ra), some (.ref rb), some (.int (nI m)), some (.int (nI na - nI nb)), some (.int (nI n)), some (.int (nI u)), some (.int (nI l)), some (.int (nI k))] _ [.int (nI k), .ref 38, .long (lN (1073741824 + k)), .int (nI k), .ref 19] rfl ?_
      refine ar_lald M_A_find rfl h38 (vp_in_nI (by omega) (by decide)) ?_
      rw [nI_clamp (n := k) (by omega)]
      refine ar_go M_A_find 1 _ 102 _ [some (.ref 10), some (.ref ra), some (.ref rb), some (.int (nI m)), some (.int (nI na - nI nb)), some (.int (nI n)), some (.int (nI u)), some (.int (nI l)), some (.int (nI k))] _ [.ref 10, .long (lN (SA k)), .long (lN (1073741824 + k)), .int (nI k), .ref 19] rfl ?_
      refine ar_get M_A_find rfl rfl hO rfl ?_
      refine ar_go M_A_find 1 _ 107 _ [some (.ref 10), some (.ref ra), some (.ref rb), some (.int (nI m)), some (.int (nI na - nI nb)), some (.int (nI n)), some (.int (nI u)), some (.int (nI l)), some (.int (nI k))] _ [.int (nI k), .ref 39, .long (lN (SA k)), .long (lN (1073741824 + k)), .int (nI k), .ref 19] rfl ?_
      refine ar_lald M_A_find rfl h39 (vp_in_nI (by omega) (by decide)) ?_
      rw [nI_clamp (n := k) (by omega)]
      refine ar_go M_A_find 2 _ 112 _ [some (.ref 10), some (.ref ra), some (.ref rb), some (.int (nI m)), some (.int (nI na - nI nb)), some (.int (nI n)), some (.int (nI u)), some (.int (nI l)), some (.int (nI k))] _ [.int (nI l), .int (nI u), .long (lN (SB k)), .long (lN (SA k)), .long (lN (1073741824 + k)), .int (nI k), .ref 19] rfl ?_
      refine ar_CV M_A_find rfl rfl (Or.inl rfl) rfl rfl (Nat.le_of_ble_eq_true rfl) hQ.1 M_Q_setRow (Nat.le_of_ble_eq_true rfl) (c_Q_setRow X d _ hQ (by omega) (by omega) (by omega) hsa hsb) (fun r1 h2 hq => ?_)
      obtain ⟨rfl, hf, hQ2⟩ := hq
      refine ⟨hf.1, ?_⟩
      show ar Pg _ _ _ 115 [some (.ref 10), some (.ref ra), some (.ref rb), some (.int (nI m)), some (.int (nI na - nI nb)), some (.int (nI n)), some (.int (nI u)), some (.int (nI l)), some (.int (nI k))] [] _ _
      refine ar_go M_A_find 1 _ 118 _ [some (.ref 10), some (.ref ra), some (.ref rb), some (.int (nI m)), some (.int (nI na - nI nb)), some (.int (nI n)), some (.int (nI u)), some (.int (nI l)), some (.int (nI k + Int32.ofInt 1))] _ [] rfl ?_
      rw [show nI k + Int32.ofInt 1 = nI (k + 1) from nI_add k 1]
      refine ar_go M_A_find 1 _ 74 _ [some (.ref 10), some (.ref ra), some (.ref rb), some (.int (nI m)), some (.int (nI na - nI nb)), some (.int (nI n)), some (.int (nI u)), some (.int (nI l)), some (.int (nI (k + 1)))] _ [] rfl ?_
      exact ih (k + 1) h2 (by omega) (by omega) (hf.at hO (by rw [mem_eqL]; omega)) hQ2 (hf.at h38 (by rw [mem_eqL]; omega)) (hf.at h39 (by rw [mem_eqL]; omega)) (hF.tr hf (fun _ z => z) (fun _ z => z))
/-- what find reckons: the matrix, the state behind Gauss and Jordan, the two polynomials -/
def fdG (M : Nat → Nat → Nat) (uk : Nat → Option Nat) (SA SB : Nat → Nat) (m na nb : Nat) : (Nat → Nat → Nat) × (Nat → Option Nat) × Nat := gj (nN m na nb) (sM M SA SB (uN m na nb) (lN2 m na nb) (nN m na nb)) uk (nN m na nb)
def fdOk (G : (Nat → Nat → Nat) × (Nat → Option Nat) × Nat) (n : Nat) : Bool := rs0 G.1 n (n - G.2.2) G.2.2
def fdP (A : Nat → Nat) (G : (Nat → Nat → Nat) × (Nat → Option Nat) × Nat) (n fst nd : Nat) : Nat → Nat := updN (bs A G.1 G.2.1 n fst nd) nd 1
def fdL : List Nat := 11 :: 12 :: 13 :: 14 :: 38 :: 39 :: eqL
theorem mem_fdL {k : Nat} : k ∈ fdL ↔ k = 11 ∨ k = 12 ∨ k = 13 ∨ k = 14 ∨ (19 ≤ k ∧ k < 40) := by
  unfold fdL
  simp only [List.mem_cons, mem_eqL]
  omega
theorem c_A_fi2 (X : am_X) (d : Nat) (h : am_H) {ra rb m na nb : Nat} {ro : Nat → Nat} {c0 k1 k2 : Nat} {M : Nat → Nat → Nat} {uk : Nat → Option Nat} {U W SA SB : Nat → Nat} (hm1 : 1 ≤ m) (hm : m ≤ 16) (hna : na ≤ 64) (hnb : nb ≤ 64) (hr1 : na ≤ nb + m) (hr2 : nb ≤ na + m) (hO : isF h) (hQ : isQ h ro c0 M uk) (hU : isP h 11 k1 U) (hW : isP h 13 k2 W) (h38 : isLA h 38 18 SA) (h39 : isLA h 39 18 SB) (hSA : lt18 SA) (hSB : lt18 SB) : ar Pg X (d + 1 + 1 + 1) n_A_find 51 [some (.ref 10), some (.ref ra), some (.ref rb), some (.int (nI m)), some (.int (nI na - nI nb)), none, none, none, none] [.int (nI (nN m na nb))] h (fun rr h' => ∃ ok : Bool, rr = some (.int (bi ok)) ∧ fr fdL h h' ∧ ok = fdOk (fdG M uk SA SB m na nb) (nN m na nb) ∧ isLA h' 38 18 SA ∧ isLA h' 39 18 SB ∧ (∃ ro', isQ h' ro' (nN m na nb) (fdG M uk SA SB m na nb).1 (fdG M uk SA SB m na nb).2.1) ∧ (ok = true → isP h' 11 (uN m na nb + 1) (fdP U (fdG M uk SA SB m na nb) (nN m na nb) 0 (uN m na nb)) ∧ isP h' 13 (lN2 m na nb + 1) (fdP W (fdG M uk SA SB m na nb) (nN m na nb) (uN m na nb) (lN2 m na nb))) ∧ (ok = false → isP h' 11 k1 U ∧ isP h' 13 k2 W)) := by
  obtain ⟨e1, e2, e3, e4, e5, e6⟩ := nN_facts hr1 hr2 hm1
  unfold isF at hO
  refine ar_go M_A_find 4 _ 58 _ [some (.ref 10), some (.ref ra), some (.ref rb), some (.int (nI m)), some (.int (nI na - nI nb)), some (.int (nI (nN m na nb))), none, none, none] _ [.int (nI (nN m na nb) + (nI na - nI nb))] rfl ?_
  refine ar_top (w := .int (nI (nN m na nb + na - nb))) (congrArg Value.int (df_p (by omega))) ?_
  refine ar_go M_A_find 1 _ 59 _ [some (.ref 10), some (.ref ra), some (.ref rb), some (.int (nI m)), some (.int (nI na - nI nb)), some (.int (nI (nN m na nb))), none, none, none] _ [.int (nI 2), .int (nI (nN m na nb + na - nb))] rfl ?_
  refine ar_idiv M_A_find rfl (by decide) ?_
  refine ar_top (w := .int (nI (uN m na nb))) (congrArg Value.int (pk_div (by omega) (by decide) (by decide))) ?_
  refine ar_go M_A_find 4 _ 67 _ [some (.ref 10), some (.ref ra), some (.ref rb), some (.int (nI m)), some (.int (nI na - nI nb)), some (.int (nI (nN m na nb))), some (.int (nI (uN m na nb))), none, none] _ [.int (nI (nN m na nb) - (nI na - nI nb))] rfl ?_
  refine ar_top (w := .int (nI (nN m na nb + nb - na))) (congrArg Value.int (df_m (by omega))) ?_
  refine ar_go M_A_find 1 _ 68 _ [some (.ref 10), some (.ref ra), some (.ref rb), some (.int (nI m)), some (.int (nI na - nI nb)), some (.int (nI (nN m na nb))), some (.int (nI (uN m na nb))), none, none] _ [.int (nI 2), .int (nI (nN m na nb + nb - na))] rfl ?_
  refine ar_idiv M_A_find rfl (by decide) ?_
  refine ar_top (w := .int (nI (lN2 m na nb))) (congrArg Value.int (pk_div (by omega) (by decide) (by decide))) ?_
  refine ar_go M_A_find 3 _ 74 _ [some (.ref 10), some (.ref ra), some (.ref rb), some (.int (nI m)), some (.int (nI na - nI nb)), some (.int (nI (nN m na nb))), some (.int (nI (uN m na nb))), some (.int (nI (lN2 m na nb))), some (.int (nI 0))] _ [] rfl ?_
  refine c_A_fi_loop X (d + 1) h (M := M) (SA := SA) (SB := SB) (n := nN m na nb) (u := uN m na nb) (l := lN2 m na nb) (by omega) (by omega) hSA hSB ?_ (nN m na nb + 1) 0 h (by omega) (by omega) hO hQ h38 h39 (fr.rf _ _)
  intro h1 hQ1 hF1
  have hO := hF1.at hO (by rw [mem_eqL]; omega)
  refine ar_go M_A_find 1 _ 122 _ [some (.ref 10), some (.ref ra), some (.ref rb), some (.int (nI m)), some (.int (nI na - nI nb)), some (.int (nI (nN m na nb))), some (.int (nI (uN m na nb))), some (.int (nI (lN2 m na nb))), some (.int (nI (nN m na nb)))] _ [.ref 10] rfl ?_
  refine ar_get M_A_find rfl rfl hO rfl ?_
  refine ar_go M_A_find 1 _ 127 _ [some (.ref 10), some (.ref ra), some (.ref rb), some (.int (nI m)), some (.int (nI na - nI nb)), some (.int (nI (nN m na nb))), some (.int (nI (uN m na nb))), some (.int (nI (lN2 m na nb))), some (.int (nI (nN m na nb)))] _ [.int (nI (nN m na nb)), .ref 19] rfl ?_
  refine ar_CV M_A_find rfl rfl (Or.inl rfl) rfl rfl (Nat.le_of_ble_eq_true rfl) hQ1.1 M_Q_solve (Nat.le_of_ble_eq_true rfl) (c_Q_solve X d _ hQ1 (by omega)) (fun r1 h2 hq => ?_)
  obtain ⟨ro2, rfl, hF2, hQ2⟩ := hq
  refine ⟨hF2.1, ?_⟩
  have hO := hF2.at hO (by rw [mem_eqL]; omega)
  have hF3 := hF1.tr hF2 (l := eqL) (fun _ z => z) (fun _ z => z)
  have hU := hU.fr hF3 (by rw [mem_eqL]; omega) (by rw [mem_eqL]; omega)
  have hW := hW.fr hF3 (by rw [mem_eqL]; omega) (by rw [mem_eqL]; omega)
  have h38 := hF3.at h38 (by rw [mem_eqL]; omega)
  have h39 := hF3.at h39 (by rw [mem_eqL]; omega)
  have hQ2 : isQ h2 ro2 (nN m na nb) (fdG M uk SA SB m na nb).1 (fdG M uk SA SB m na nb).2.1 := hQ2
  show ar Pg _ _ _ 130 [some (.ref 10), some (.ref ra), some (.ref rb), some (.int (nI m)), some (.int (nI na - nI nb)), some (.int (nI (nN m na nb))), some (.int (nI (uN m na nb))), some (.int (nI (lN2 m na nb))), some (.int (nI (nN m na nb)))] [.int (bi (fdOk (fdG M uk SA SB m na nb) (nN m na nb)))] _ _
  refine ar_if M_A_find rfl rfl (fun hc => ?_) (fun hc => ?_)
  · have hc := bi_ne_t hc
    have huk := gj_uk (c := nN m na nb) (by omega) (sM M SA SB (uN m na nb) (lN2 m na nb) (nN m na nb)) uk (nN m na nb) (Nat.le_refl _)
    refine ar_go M_A_find 1 _ 136 _ [some (.ref 10), some (.ref ra), some (.ref rb), some (.int (nI m)), some (.int (nI na - nI nb)), some (.int (nI (nN m na nb))), some (.int (nI (uN m na nb))), some (.int (nI (lN2 m na nb))), some (.int (nI (nN m na nb)))] _ [.ref 10] rfl ?_
    refine ar_get M_A_find rfl rfl hO rfl ?_
    refine ar_go M_A_find 1 _ 140 _ [some (.ref 10), some (.ref ra), some (.ref rb), some (.int (nI m)), some (.int (nI na - nI nb)), some (.int (nI (nN m na nb))), some (.int (nI (uN m na nb))), some (.int (nI (lN2 m na nb))), some (.int (nI (nN m na nb)))] _ [.ref 10, .ref 11] rfl ?_
    refine ar_get M_A_find rfl rfl hO rfl ?_
    refine ar_go M_A_find 2 _ 146 _ [some (.ref 10), some (.ref ra), some (.ref rb), some (.int (nI m)), some (.int (nI na - nI nb)), some (.int (nI (nN m na nb))), some (.int (nI (uN m na nb))), some (.int (nI (lN2 m na nb))), some (.int (nI (nN m na nb)))] _ [.int (nI (uN m na nb)), .int (nI 0), .ref 19, .ref 11] rfl ?_
    refine ar_CV M_A_find rfl rfl (Or.inl rfl) rfl rfl (Nat.le_of_ble_eq_true rfl) hU.2.1 M_Y_becomeSolution (Nat.le_of_ble_eq_true rfl) (c_Y_becomeSolution X (d + 1) _ hU hQ2 (by decide) (by omega) (by omega) (by omega) huk) (fun r1 h4 hq => ?_)
    obtain ⟨rfl, hf4, hU4⟩ := hq
    refine ⟨hf4.1, ?_⟩
    have hO := hf4.at hO (by simp)
    have hW := hW.fr hf4 (by simp) (by simp)
    have hQ4 := hQ2.mv hf4 (by intro k h1 h2; simp; omega)
    show ar Pg _ _ _ 149 [some (.ref 10), some (.ref ra), some (.ref rb), some (.int (nI m)), some (.int (nI na - nI nb)), some (.int (nI (nN m na nb))), some (.int (nI (uN m na nb))), some (.int (nI (lN2 m na nb))), some (.int (nI (nN m na nb)))] [] _ _
    refine ar_go M_A_find 1 _ 150 _ [some (.ref 10), some (.ref ra), some (.ref rb), some (.int (nI m)), some (.int (nI na - nI nb)), some (.int (nI (nN m na nb))), some (.int (nI (uN m na nb))), some (.int (nI (lN2 m na nb))), some (.int (nI (nN m na nb)))] _ [.ref 10] rfl ?_
    refine ar_get M_A_find rfl rfl hO rfl ?_
    refine ar_go M_A_find 1 _ 154 _ [some (.ref 10), some (.ref ra), some (.ref rb), some (.int (nI m)), some (.int (nI na - nI nb)), some (.int (nI (nN m na nb))), some (.int (nI (uN m na nb))), some (.int (nI (lN2 m na nb))), some (.int (nI (nN m na nb)))] _ [.ref 10, .ref 13] rfl ?_
    refine ar_get M_A_find rfl rfl hO rfl ?_
    refine ar_go M_A_find 2 _ 161 _ [some (.ref 10), some (.ref ra), some (.ref rb), some (.int (nI m)), some (.int (nI na - nI nb)), some (.int (nI (nN m na nb))), some (.int (nI (uN m na nb))), some (.int (nI (lN2 m na nb))), some (.int (nI (nN m na nb)))] _ [.int (nI (lN2 m na nb)), .int (nI (uN m na nb)), .ref 19, .ref 13] rfl ?_
    refine ar_CV M_A_find rfl rfl (Or.inl rfl) rfl rfl (Nat.le_of_ble_eq_true rfl) hW.2.1 M_Y_becomeSolution (Nat.le_of_ble_eq_true rfl) (c_Y_becomeSolution X (d + 1) _ hW hQ4 (by decide) (by omega) (by omega) (by omega) huk) (fun r1 h5 hq => ?_)
    obtain ⟨rfl, hf5, hW5⟩ := hq
    refine ⟨hf5.1, ?_⟩
    show ar Pg _ _ _ 164 [some (.ref 10), some (.ref ra), some (.ref rb), some (.int (nI m)), some (.int (nI na - nI nb)), some (.int (nI (nN m na nb))), some (.int (nI (uN m na nb))), some (.int (nI (lN2 m na nb))), some (.int (nI (nN m na nb)))] [] _ _
    refine ar_go M_A_find 1 _ 165 _ [some (.ref 10), some (.ref ra), some (.ref rb), some (.int (nI m)), some (.int (nI na - nI nb)), some (.int (nI (nN m na nb))), some (.int (nI (uN m na nb))), some (.int (nI (lN2 m na nb))), some (.int (nI (nN m na nb)))] _ [.int (nI 1)] rfl ?_
    exact ar_zret M_A_find rfl rfl (Or.inr rfl) (⟨true, rfl, (hF3.mono (l := fdL) (fun k hk => by rw [mem_eqL] at hk; rw [mem_fdL]; omega)).tr (hf4.tr hf5 (l := [11, 12, 13, 14]) (by simp) (by simp)) (fun _ z => z) (fun k hk => by rw [mem_fdL]; simp at hk; omega), hc.symm, hf5.at (hf4.at h38 (by simp)) (by simp), hf5.at (hf4.at h39 (by simp)) (by simp), ⟨ro2, hQ4.mv hf5 (by intro k h1 h2; simp; omega)⟩, fun _ => ⟨hU4.fr hf5 (by simp) (by simp), hW5⟩, fun z => (by cases z)⟩)
  · have hc := bi_ne_f hc
    refine ar_go M_A_find 1 _ 134 _ [some (.ref 10), some (.ref ra), some (.ref rb), some (.int (nI m)), some (.int (nI na - nI nb)), some (.int (nI (nN m na nb))), some (.int (nI (uN m na nb))), some (.int (nI (lN2 m na nb))), some (.int (nI (nN m na nb)))] _ [.int (nI 0)] rfl ?_
    exact ar_zret M_A_find rfl rfl (Or.inl rfl) (⟨false, rfl, hF3.mono (fun k hk => by rw [mem_eqL] at hk; rw [mem_fdL]; omega), hc.symm, h38, h39, ⟨ro2, hQ2⟩, fun z => (by cases z), fun _ => ⟨hU, hW⟩⟩)
theorem c_A_find (X : am_X) (d : Nat) (h : am_H) {ra rb m : Nat} {la lb : Bk} {ro : Nat → Nat} {c0 k1 k2 : Nat} {M : Nat → Nat → Nat} {uk : Nat → Option Nat} {U W SA SB : Nat → Nat} (hra : 40 ≤ ra ∧ ra < 56) (hrb : 40 ≤ rb ∧ rb < 56) (hWa : bkW la) (hWb : bkW lb) (hm1 : 1 ≤ m) (hm : m ≤ 16) (hO : isF h) (hRa : isR h ra la) (hRb : isR h rb lb) (hQ : isQ h ro c0 M uk) (hU : isP h 11 k1 U) (hW : isP h 13 k2 W) (h38 : isLA h 38 18 SA) (h39 : isLA h 39 18 SB) (hSA : lt18 SA) (hSB : lt18 SB) : ar Pg X (d + 1 + 1 + 1) n_A_find 0 [some (.ref 10), some (.ref ra), some (.ref rb), some (.int (nI m)), none, none, none, none, none] [] h (fun rr h' => ((lb.length + m < la.length ∨ la.length + m < lb.length) ∧ rr = some (.int (bi false)) ∧ h' = h) ∨ (la.length ≤ lb.length + m ∧ lb.length ≤ la.length + m ∧ ∃ ok : Bool, rr = some (.int (bi ok)) ∧ fr fdL h h' ∧ ok = fdOk (fdG M uk (tk SA la (m + 2)) (tk SB lb (m + 2)) m la.length lb.length) (nN m la.length lb.length) ∧ isLA h' 38 18 (tk SA la (m + 2)) ∧ isLA h' 39 18 (tk SB lb (m + 2)) ∧ (∃ ro', isQ h' ro' (nN m la.length lb.length) (fdG M uk (tk SA la (m + 2)) (tk SB lb (m + 2)) m la.length lb.length).1 (fdG M uk (tk SA la (m + 2)) (tk SB lb (m + 2)) m la.length lb.length).2.1) ∧ (ok = true → isP h' 11 (uN m la.length lb.length + 1) (fdP U (fdG M uk (tk SA la (m + 2)) (tk SB lb (m + 2)) m la.length lb.length) (nN m la.length lb.length) 0 (uN m la.length lb.length)) ∧ isP h' 13 (lN2 m la.length lb.length + 1) (fdP W (fdG M uk (tk SA la (m + 2)) (tk SB lb (m + 2)) m la.length lb.length) (nN m la.length lb.length) (uN m la.length lb.length) (lN2 m la.length lb.length))) ∧ (ok = false → isP h' 11 k1 U ∧ isP h' 13 k2 W))) := by
  have hO0 := hO
  unfold isF at hO
  have hla := hRa.1
  have hlb := hRb.1
  refine ar_go M_A_find 1 _ 1 _ [some (.ref 10), some (.ref ra), some (.ref rb), some (.int (nI m)), none, none, none, none, none] _ [.ref ra] rfl ?_
  refine ar_get M_A_find rfl rfl hRa.2.1 rfl ?_
  refine ar_go M_A_find 1 _ 5 _ [some (.ref 10), some (.ref ra), some (.ref rb), some (.int (nI m)), none, none, none, none, none] _ [.ref rb, .int (nI la.length)] rfl ?_
  refine ar_get M_A_find rfl rfl hRb.2.1 rfl ?_
  refine ar_go M_A_find 1 _ 9 _ [some (.ref 10), some (.ref ra), some (.ref rb), some (.int (nI m)), none, none, none, none, none] _ [.int (nI la.length - nI lb.length)] rfl ?_
  refine ar_top (w := .int (nI la.length - nI lb.length)) (congrArg Value.int rfl) ?_
  refine ar_go M_A_find 3 _ 14 _ [some (.ref 10), some (.ref ra), some (.ref rb), some (.int (nI m)), some (.int (nI la.length - nI lb.length)), none, none, none, none] _ [.int (nI m), .int (nI la.length - nI lb.length)] rfl ?_
  refine ar_icmp M_A_find rfl rfl (fun hc => ?_) (fun hc => ?_)
  · rw [df_gt (by omega) (by omega) (by omega)] at hc
    have hc := of_decide_eq_true hc
    refine ar_go M_A_find 1 _ 25 _ [some (.ref 10), some (.ref ra), some (.ref rb), some (.int (nI m)), some (.int (nI la.length - nI lb.length)), none, none, none, none] _ [.int (nI 0)] rfl ?_
    exact ar_zret M_A_find rfl rfl (Or.inl rfl) (Or.inl ⟨Or.inl hc, rfl, rfl⟩)
  · rw [df_gt (by omega) (by omega) (by omega)] at hc
    have hc := of_decide_eq_false hc
    refine ar_go M_A_find 3 _ 21 _ [some (.ref 10), some (.ref ra), some (.ref rb), some (.int (nI m)), some (.int (nI la.length - nI lb.length)), none, none, none, none] _ [.int (-(nI m)), .int (nI la.length - nI lb.length)] rfl ?_
    refine ar_icmp M_A_find rfl rfl (fun hc2 => ?_) (fun hc2 => ?_)
    · rw [df_ge (by omega) (by omega) (by omega)] at hc2
      have hc2 := of_decide_eq_true hc2
      refine ar_go M_A_find 6 _ 32 _ [some (.ref 10), some (.ref ra), some (.ref rb), some (.int (nI m)), some (.int (nI la.length - nI lb.length)), none, none, none, none] _ [.int (nI m + nI 2), .ref rb, .ref ra, .ref 10] rfl ?_
      refine ar_top (w := .int (nI (m + 2))) (congrArg Value.int (nI_add m 2)) ?_
      refine ar_CV M_A_find rfl rfl (Or.inl rfl) rfl rfl (Nat.le_of_ble_eq_true rfl) hO M_A_takeSamples (Nat.le_of_ble_eq_true rfl) (c_A_takeSamples X d _ hra hrb hWa hWb (by omega) hO0 hRa hRb h38 h39) (fun r1 h2 hq => ?_)
      obtain ⟨rfl, hf1, h381, h391⟩ := hq
      refine ⟨hf1.1, ?_⟩
      have hO := hf1.at hO (by simp)
      have hU := hU.fr hf1 (by simp) (by simp)
      have hW := hW.fr hf1 (by simp) (by simp)
      have hQ := hQ.mv hf1 (by intro k h1 h2; simp; omega)
      show ar Pg _ _ _ 35 [some (.ref 10), some (.ref ra), some (.ref rb), some (.int (nI m)), some (.int (nI la.length - nI lb.length)), none, none, none, none] [] _ _
      refine ar_go M_A_find 3 _ 39 _ [some (.ref 10), some (.ref ra), some (.ref rb), some (.int (nI m)), some (.int (nI la.length - nI lb.length)), none, none, none, none] _ [.int (nI m - (nI la.length - nI lb.length))] rfl ?_
      refine ar_top (w := .int (nI (m + lb.length - la.length))) (congrArg Value.int (df_m (by omega))) ?_
      refine ar_go M_A_find 1 _ 40 _ [some (.ref 10), some (.ref ra), some (.ref rb), some (.int (nI m)), some (.int (nI la.length - nI lb.length)), none, none, none, none] _ [.int (nI 2), .int (nI (m + lb.length - la.length))] rfl ?_
      refine ar_irem M_A_find rfl (by decide) ?_
      refine ar_top (w := .int (nI ((m + lb.length - la.length) % 2))) (congrArg Value.int (pk_rem (by omega) (by decide) (by decide))) ?_
      refine ar_if M_A_find rfl rfl (fun hc3 => ?_) (fun hc3 => ?_)
      · have hc3 := c2_ne_t (a := ((m + lb.length - la.length) % 2)) (b := 0) (by omega) (by omega) hc3
        refine ar_go M_A_find 3 _ 51 _ [some (.ref 10), some (.ref ra), some (.ref rb), some (.int (nI m)), some (.int (nI la.length - nI lb.length)), none, none, none, none] _ [.int (nI m - nI 1)] rfl ?_
        refine ar_top (w := .int (nI (m - 1))) (congrArg Value.int (pk_sub (by omega))) ?_
        rw [show nI (m - 1) = nI (nN m la.length lb.length) by unfold nN; rw [if_neg hc3]]
        refine ar_mono (c_A_fi2 X d h2 hm1 hm (by omega) (by omega) (by omega) (by omega) hO hQ hU hW h381 h391 (tk_18 hSA la _) (tk_18 hSB lb _)) (fun rr h3 ⟨ok, p1, p2, p3⟩ => Or.inr ⟨by omega, by omega, ok, p1, hf1.tr p2 (fun k hk => by rw [mem_fdL]; simp at hk; omega) (fun _ z => z), p3⟩)
      · have hc3 := c2_ne_f (a := ((m + lb.length - la.length) % 2)) (b := 0) (by omega) (by omega) hc3
        refine ar_go M_A_find 2 _ 51 _ [some (.ref 10), some (.ref ra), some (.ref rb), some (.int (nI m)), some (.int (nI la.length - nI lb.length)), none, none, none, none] _ [.int (nI m)] rfl ?_
        rw [show (Value.int (nI m) :: []) = [Value.int (nI (nN m la.length lb.length))] by unfold nN; rw [if_pos hc3]]
        refine ar_mono (c_A_fi2 X d h2 hm1 hm (by omega) (by omega) (by omega) (by omega) hO hQ hU hW h381 h391 (tk_18 hSA la _) (tk_18 hSB lb _)) (fun rr h3 ⟨ok, p1, p2, p3⟩ => Or.inr ⟨by omega, by omega, ok, p1, hf1.tr p2 (fun k hk => by rw [mem_fdL]; simp at hk; omega) (fun _ z => z), p3⟩)
    · rw [df_ge (by omega) (by omega) (by omega)] at hc2
      have hc2 := of_decide_eq_false hc2
      refine ar_go M_A_find 1 _ 25 _ [some (.ref 10), some (.ref ra), some (.ref rb), some (.int (nI m)), some (.int (nI la.length - nI lb.length)), none, none, none, none] _ [.int (nI 0)] rfl ?_
      exact ar_zret M_A_find rfl rfl (Or.inl rfl) (Or.inl ⟨Or.inr (by omega), rfl, rfl⟩)
end
section
/-! Fraction: reduce -/
def eu : Nat → Nat → (Nat → Nat) → Nat → (Nat → Nat) → Nat × (Nat → Nat)
  | 0, kg, G, _, _ => (kg, G)
  | _ + 1, kg, G, 0, _ => (kg, G)
  | n + 1, kg, G, ks + 1, S => eu n (ks + 1) (ml S (mf_iv (S ks)) (ks + 1)) (trm (dv (ml S (mf_iv (S ks)) (ks + 1)) ks (kg - ks) G) (min kg ks)) (dv (ml S (mf_iv (S ks)) (ks + 1)) ks (kg - ks) G)
theorem c_A_eu_loop (X : am_X) (d : Nat) (h : am_H) {Q : Option Value → am_H → Prop} : ∀ (n st g s kg : Nat) (G : Nat → Nat) (ks : Nat) (S : Nat → Nat) (h1 : am_H) (x4 : Option Value), st + n = 17 → ((g = 15 ∧ s = 17) ∨ (g = 17 ∧ s = 15)) → isF h1 → isP h1 g kg G → isP h1 s ks S → fr [15, 16, 17, 18] h h1 → (∀ (h2 : am_H) (g2 s2 st2 k2 : Nat) (A2 : Nat → Nat) (x4 : Option Value), ((g2 = 15 ∧ s2 = 17) ∨ (g2 = 17 ∧ s2 = 15)) → isF h2 → isP h2 g2 (eu n kg G ks S).1 (eu n kg G ks S).2 → isP h2 s2 k2 A2 → fr [15, 16, 17, 18] h h2 → ar Pg X (d + 1 + 1 + 1) n_A_reduce 70 [some (.ref 10), some (.ref g2), some (.ref s2), some (.int (nI st2)), x4] [] h2 Q) → ar Pg X (d + 1 + 1 + 1) n_A_reduce 34 [some (.ref 10), some (.ref g), some (.ref s), some (.int (nI st)), x4] [] h1 Q := by
  intro n
  induction n with
  | zero =>
    intro st g s kg G ks S h1 x4 hn hgs hO hG hS hF K
    have hst : st = 17 := by omega
    subst hst
    refine ar_go M_A_reduce 2 _ 37 _ [some (.ref 10), some (.ref g), some (.ref s), some (.int (nI 17)), x4] _ [.int (nI 16), .int (nI 17)] rfl ?_
    refine ar_icmp M_A_reduce rfl rfl (fun _ => ?_) (fun z => absurd z (by decide))
    exact K h1 g s 17 ks S x4 hgs hO hG hS hF
  | succ n ih =>
    intro st g s kg G ks S h1 x4 hn hgs hO hG hS hF K
    have hO0 := hO
    unfold isF at hO
    cases ks with
    | zero =>
      refine ar_go M_A_reduce 2 _ 37 _ [some (.ref 10), some (.ref g), some (.ref s), some (.int (nI st)), x4] _ [.int (nI 16), .int (nI st)] rfl ?_
      refine ar_icmp M_A_reduce rfl rfl (fun hc => absurd (c2_gt_t (a := st) (b := 16) (by omega) (by omega) hc) (by omega)) (fun _ => ?_)
      refine ar_go M_A_reduce 1 _ 41 _ [some (.ref 10), some (.ref g), some (.ref s), some (.int (nI st)), x4] _ [.ref s] rfl ?_
      refine ar_get M_A_reduce rfl rfl hS.2.1 rfl ?_
      refine ar_if M_A_reduce rfl rfl (fun _ => ?_) (fun z => absurd z (by decide))
      exact K h1 g s st 0 S x4 hgs hO0 hG hS hF
    | succ ks =>
      have hs : h1[s]? = some (.inr (2, [.ref (s + 1), .int (nI ks)])) := hS.2.1
      have hk17 := hS.1
      refine ar_go M_A_reduce 2 _ 37 _ [some (.ref 10), some (.ref g), some (.ref s), some (.int (nI st)), x4] _ [.int (nI 16), .int (nI st)] rfl ?_
      refine ar_icmp M_A_reduce rfl rfl (fun hc => absurd (c2_gt_t (a := st) (b := 16) (by omega) (by omega) hc) (by omega)) (fun _ => ?_)
      refine ar_go M_A_reduce 1 _ 41 _ [some (.ref 10), some (.ref g), some (.ref s), some (.int (nI st)), x4] _ [.ref s] rfl ?_
      refine ar_get M_A_reduce rfl rfl hs rfl ?_
      refine ar_if M_A_reduce rfl rfl (fun hc => absurd (of_decide_eq_true hc) (nI_pos (by omega))) (fun _ => ?_)
      refine ar_go M_A_reduce 1 _ 48 _ [some (.ref 10), some (.ref g), some (.ref s), some (.int (nI st)), x4] _ [.ref s] rfl ?_
      refine ar_CV M_A_reduce rfl rfl (Or.inl rfl) rfl rfl (Nat.le_of_ble_eq_true rfl) hs M_Y_makeHighestOne (Nat.le_of_ble_eq_true rfl) (c_Y_makeHighestOne X (d + 1) _ hS (by omega)) (fun r1 h2 hq => ?_)
      obtain ⟨rfl, hf1, hS1⟩ := hq
      refine ⟨hf1.1, ?_⟩
      have hG1 := hG.fr hf1 (by simp; omega) (by simp; omega)
      show ar Pg _ _ _ 51 [some (.ref 10), some (.ref g), some (.ref s), some (.int (nI st)), x4] [] _ _
      refine ar_go M_A_reduce 2 _ 53 _ [some (.ref 10), some (.ref g), some (.ref s), some (.int (nI st)), x4] _ [.ref s, .ref g] rfl ?_
      refine ar_CV M_A_reduce rfl rfl (Or.inl rfl) rfl rfl (Nat.le_of_ble_eq_true rfl) hG1.2.1 M_Y_becomeRemainder (Nat.le_of_ble_eq_true rfl) (c_Y_becomeRemainder X d _ hG1 hS1 (by omega) (by omega) (by omega)) (fun r1 h3 hq => ?_)
      obtain ⟨rfl, hf2, hG2⟩ := hq
      refine ⟨hf2.1, ?_⟩
      have hS2 := hS1.fr hf2 (by simp; omega) (by simp; omega)
      show ar Pg _ _ _ 56 [some (.ref 10), some (.ref g), some (.ref s), some (.int (nI st)), x4] [] _ _
      refine ar_go M_A_reduce 6 _ 64 _ [some (.ref 10), some (.ref s), some (.ref g), some (.int (nI st)), some (.ref g)] _ [] rfl ?_
      refine ar_go M_A_reduce 1 _ 67 _ [some (.ref 10), some (.ref s), some (.ref g), some (.int (nI st + Int32.ofInt 1)), some (.ref g)] _ [] rfl ?_
      rw [show nI st + Int32.ofInt 1 = nI (st + 1) from nI_add st 1]
      refine ar_go M_A_reduce 1 _ 34 _ [some (.ref 10), some (.ref s), some (.ref g), some (.int (nI (st + 1))), some (.ref g)] _ [] rfl ?_
      exact ih (st + 1) s g _ _ _ _ h3 _ (by omega) (by omega) (hf2.at (hf1.at hO (by simp; omega)) (by simp; omega)) hS2 hG2 (hF.tr (hf1.tr hf2 (l := [15, 16, 17, 18]) (by simp; omega) (by simp; omega)) (fun _ z => z) (fun _ z => z)) K
theorem wk12 {h : am_H} {g s ka kb : Nat} {A B : Nat → Nat} (hgs : (g = 15 ∧ s = 17) ∨ (g = 17 ∧ s = 15)) (h1 : isP h g ka A) (h2 : isP h s kb B) : (∃ k A, isP h 15 k A) ∧ ∃ k A, isP h 17 k A := by
  rcases hgs with ⟨rfl, rfl⟩ | ⟨rfl, rfl⟩
  · exact ⟨⟨_, _, h1⟩, ⟨_, _, h2⟩⟩
  · exact ⟨⟨_, _, h2⟩, ⟨_, _, h1⟩⟩
theorem c_A_reduce (X : am_X) (d : Nat) (h : am_H) {u l k1 k2 : Nat} {U W A1 A2 : Nat → Nat} (hO : isF h) (hU : isP h 11 (u + 1) U) (hW : isP h 13 (l + 1) W) (h15 : isP h 15 k1 A1) (h17 : isP h 17 k2 A2)
    (hE : ∀ G0 S0 : Nat → Nat, (∀ i, i < 17 → G0 i = U i) → (∀ i, i < 17 → S0 i = W i) → ∃ q G, eu 17 (u + 1) G0 (l + 1) S0 = (q + 1, G) ∧ q ≤ u ∧ q ≤ l) :
    ar Pg X (d + 1 + 1 + 1) n_A_reduce 0 [some (.ref 10), none, none, none, none] [] h (fun rr h' => rr = none ∧ fr [11, 12, 13, 14, 15, 16, 17, 18] h h' ∧ ∃ (G0 S0 : Nat → Nat) (q : Nat) (G : Nat → Nat), (∀ i, i < 17 → G0 i = U i) ∧ (∀ i, i < 17 → S0 i = W i) ∧ eu 17 (u + 1) G0 (l + 1) S0 = (q + 1, G) ∧ isP h' 11 (u - q + 1) (shd (dv G q (u + 1 - q) U) q (u - q + 1)) ∧ isP h' 13 (l - q + 1) (shd (dv G q (l + 1 - q) W) q (l - q + 1)) ∧ (∃ k A, isP h' 15 k A) ∧ ∃ k A, isP h' 17 k A) := by
  unfold isF at hO
  refine ar_go M_A_reduce 1 _ 1 _ [some (.ref 10), none, none, none, none] _ [.ref 10] rfl ?_
  refine ar_get M_A_reduce rfl rfl hO rfl ?_
  refine ar_go M_A_reduce 1 _ 5 _ [some (.ref 10), none, none, none, none] _ [.ref 10, .ref 15] rfl ?_
  refine ar_get M_A_reduce rfl rfl hO rfl ?_
  refine ar_CV M_A_reduce rfl rfl (Or.inl rfl) rfl rfl (Nat.le_of_ble_eq_true rfl) h15.2.1 M_Y_become (Nat.le_of_ble_eq_true rfl) (c_Y_become X (d + 1) _ h15 hU (by decide) (by decide) (by decide)) (fun r1 h2 hq => ?_)
  obtain ⟨rfl, hf1, h15, hag1⟩ := hq
  refine ⟨hf1.1, ?_⟩
  have hO := hf1.at hO (by simp)
  have h17 := h17.fr hf1 (by simp) (by simp)
  have hU2 := hU.fr hf1 (by simp) (by simp)
  have hW2 := hW.fr hf1 (by simp) (by simp)
  show ar Pg _ _ _ 11 [some (.ref 10), none, none, none, none] [] _ _
  refine ar_go M_A_reduce 1 _ 12 _ [some (.ref 10), none, none, none, none] _ [.ref 10] rfl ?_
  refine ar_get M_A_reduce rfl rfl hO rfl ?_
  refine ar_go M_A_reduce 1 _ 16 _ [some (.ref 10), none, none, none, none] _ [.ref 10, .ref 17] rfl ?_
  refine ar_get M_A_reduce rfl rfl hO rfl ?_
  refine ar_CV M_A_reduce rfl rfl (Or.inl rfl) rfl rfl (Nat.le_of_ble_eq_true rfl) h17.2.1 M_Y_become (Nat.le_of_ble_eq_true rfl) (c_Y_become X (d + 1) _ h17 hW2 (by decide) (by decide) (by decide)) (fun r1 h3 hq => ?_)
  obtain ⟨rfl, hf2, h17, hag2⟩ := hq
  refine ⟨hf2.1, ?_⟩
  have hO := hf2.at hO (by simp)
  have h15 := h15.fr hf2 (by simp) (by simp)
  have hU3 := hU2.fr hf2 (by simp) (by simp)
  have hW3 := hW2.fr hf2 (by simp) (by simp)
  have hF3 : fr [15, 16, 17, 18] h h3 := hf1.tr hf2 (by simp) (by simp)
  show ar Pg _ _ _ 22 [some (.ref 10), none, none, none, none] [] _ _
  refine ar_go M_A_reduce 1 _ 23 _ [some (.ref 10), none, none, none, none] _ [.ref 10] rfl ?_
  refine ar_get M_A_reduce rfl rfl hO rfl ?_
  refine ar_go M_A_reduce 2 _ 28 _ [some (.ref 10), some (.ref 15), none, none, none] _ [.ref 10] rfl ?_
  refine ar_get M_A_reduce rfl rfl hO rfl ?_
  refine ar_go M_A_reduce 3 _ 34 _ [some (.ref 10), some (.ref 15), some (.ref 17), some (.int (nI 0)), none] _ [] rfl ?_
  refine c_A_eu_loop X d h 17 0 15 17 (u + 1) _ (l + 1) _ h3 none (by omega) (Or.inl ⟨rfl, rfl⟩) hO h15 h17 hF3 ?_
  intro h4 g2 s2 st2 k2 A2 x4 hgs hO hG4 hS4 hF4
  obtain ⟨q, G, he, hq1, hq2⟩ := hE _ _ hag1 hag2
  rw [he] at hG4
  have hU4 := hU.fr hF4 (by simp) (by simp)
  have hW4 := hW.fr hF4 (by simp) (by simp)
  unfold isF at hO
  refine ar_go M_A_reduce 1 _ 71 _ [some (.ref 10), some (.ref g2), some (.ref s2), some (.int (nI st2)), x4] _ [.ref 10] rfl ?_
  refine ar_get M_A_reduce rfl rfl hO rfl ?_
  refine ar_go M_A_reduce 1 _ 75 _ [some (.ref 10), some (.ref g2), some (.ref s2), some (.int (nI st2)), x4] _ [.ref g2, .ref 11] rfl ?_
  refine ar_CV M_A_reduce rfl rfl (Or.inl rfl) rfl rfl (Nat.le_of_ble_eq_true rfl) hU4.2.1 M_Y_becomeQuotient (Nat.le_of_ble_eq_true rfl) (c_Y_becomeQuotient X d _ hU4 hG4 (by decide) (by omega) (by omega) hq1) (fun r1 h5 hq => ?_)
  obtain ⟨rfl, hf5, hU5⟩ := hq
  refine ⟨hf5.1, ?_⟩
  have hO := hf5.at hO (by simp)
  have hW5 := hW4.fr hf5 (by simp) (by simp)
  have hG5 := hG4.fr hf5 (by simp; omega) (by simp; omega)
  have hS5 := hS4.fr hf5 (by simp; omega) (by simp; omega)
  show ar Pg _ _ _ 78 [some (.ref 10), some (.ref g2), some (.ref s2), some (.int (nI st2)), x4] [] _ _
  refine ar_go M_A_reduce 1 _ 79 _ [some (.ref 10), some (.ref g2), some (.ref s2), some (.int (nI st2)), x4] _ [.ref 10] rfl ?_
  refine ar_get M_A_reduce rfl rfl hO rfl ?_
  refine ar_go M_A_reduce 1 _ 83 _ [some (.ref 10), some (.ref g2), some (.ref s2), some (.int (nI st2)), x4] _ [.ref g2, .ref 13] rfl ?_
  refine ar_CV M_A_reduce rfl rfl (Or.inl rfl) rfl rfl (Nat.le_of_ble_eq_true rfl) hW5.2.1 M_Y_becomeQuotient (Nat.le_of_ble_eq_true rfl) (c_Y_becomeQuotient X d _ hW5 hG5 (by decide) (by omega) (by omega) hq2) (fun r1 h6 hq => ?_)
  obtain ⟨rfl, hf6, hW6⟩ := hq
  refine ⟨hf6.1, ?_⟩
  have hG6 := hG5.fr hf6 (by simp; omega) (by simp; omega)
  have hS6 := hS5.fr hf6 (by simp; omega) (by simp; omega)
  show ar Pg _ _ _ 86 [some (.ref 10), some (.ref g2), some (.ref s2), some (.int (nI st2)), x4] [] _ _
  exact ar_R M_A_reduce rfl rfl rfl rfl (⟨rfl, hF4.tr (hf5.tr hf6 (l := [11, 12, 13, 14]) (by simp) (by simp)) (by simp) (by simp), _, _, q, G, hag1, hag2, he, hU5.fr hf6 (by simp) (by simp), hW6, wk12 hgs hG6 hS6⟩)
end
section
/-! Records: parcels -/
def fil (P : Nat → Bool) (o : Bk) : Nat → Bk
  | 0 => []
  | i + 1 => fil P o i ++ (if P i = true then [en o i] else [])
theorem fil_len (P : Nat → Bool) (o : Bk) : ∀ i, (fil P o i).length ≤ i
  | 0 => Nat.le_refl _
  | i + 1 => by
    have := fil_len P o i
    rw [fil, List.length_append]
    split <;> simp <;> omega
theorem fil_t {P : Nat → Bool} {o : Bk} {i : Nat} (h : P i = true) : fil P o (i + 1) = fil P o i ++ [en o i] := by
  rw [fil, if_pos h]
theorem fil_f {P : Nat → Bool} {o : Bk} {i : Nat} (h : P i = false) : fil P o (i + 1) = fil P o i := by
  rw [fil, if_neg (by rw [h]; decide), List.append_nil]
theorem app_wd {l : Bk} {e : Nat × Int32 × Bool} {i : Nat} (h : i < l.length) : wd (l ++ [e]) i = wd l i ∧ gd (l ++ [e]) i = gd l i ∧ dd (l ++ [e]) i = dd l i := by
  have : (l ++ [e]).getD i (0, 0, false) = l.getD i (0, 0, false) := by
    rw [List.getD_eq_getElem?_getD, List.getD_eq_getElem?_getD, List.getElem?_append_left h]
  unfold wd gd dd
  rw [this]
  exact ⟨rfl, rfl, rfl⟩
theorem app_wl (l : Bk) (e : Nat × Int32 × Bool) : wd (l ++ [e]) l.length = e.1 ∧ gd (l ++ [e]) l.length = e.2.1 ∧ dd (l ++ [e]) l.length = e.2.2 := by
  have : (l ++ [e]).getD l.length (0, 0, false) = e := by
    rw [List.getD_eq_getElem?_getD, List.getElem?_append_right (Nat.le_refl _)]
    simp
  unfold wd gd dd
  rw [this]
  exact ⟨rfl, rfl, rfl⟩
theorem isC_app {l : Bk} {f g m : Nat → Int32} (hC : isC l f g m) (e : Nat × Int32 × Bool) : isC (l ++ [e]) (upd f l.length (nI e.1)) (upd g l.length e.2.1) (upd m l.length (bi e.2.2)) := by
  intro i hi
  rw [List.length_append, List.length_singleton] at hi
  by_cases h : i = l.length
  · subst h
    obtain ⟨a, b, c⟩ := app_wl l e
    rw [a, b, c, pk_us, pk_us, pk_us]
    exact ⟨rfl, rfl, rfl⟩
  · obtain ⟨a, b, c⟩ := app_wd (l := l) (e := e) (i := i) (by omega)
    rw [a, b, c, pk_un h, pk_un h, pk_un h]
    exact hC i (by omega)
theorem c_R_becomeAllOf_loop (X : am_X) (d : Nat) (h : am_H) {r s : Nat} {o : Bk} (hR2 : isR h s o) (hrs : r < 1000) (hss : s < 1000) (hap : s + 4 ≤ r ∨ r + 4 ≤ s) : ∀ (n i : Nat) (h1 : am_H) (f g m : Nat → Int32), o.length - i < n → i ≤ o.length → isO h1 r (nI (fil (fun _ => true) o i).length) → isA h1 r f g m → isC (fil (fun _ => true) o i) f g m → fr [r, r + 1, r + 2, r + 3] h h1 → ar Pg X (d + 1) n_R_becomeAllOf 7 [some (.ref r), some (.ref s), some (.int (nI i))] [] h1 (fun rr h' => rr = none ∧ fr [r, r + 1, r + 2, r + 3] h h' ∧ isR h' r (fil (fun _ => true) o o.length)) := by
  intro n
  induction n with
  | zero => intro i h1 f g m hk; omega
  | succ n ih =>
    intro i h1 f g m hk hil hO hA hC hF
    have hR21 : isR h1 s o := hR2.fr hF (by simp; omega) (by simp; omega) (by simp; omega) (by simp; omega)
    obtain ⟨hlen2, hr2, f2, g2, m2, hw2, hg2, hm2, hfa2⟩ := hR21
    have hcl := fil_len (fun _ => true) o i
    refine ar_go M_R_becomeAllOf 2 _ 9 _ [some (.ref r), some (.ref s), some (.int (nI i))] _ [.ref s, .int (nI i)] rfl ?_
    refine ar_get M_R_becomeAllOf rfl rfl hr2 rfl ?_
    refine ar_icmp M_R_becomeAllOf rfl rfl (fun hc => ?_) (fun hc => ?_)
    · have hc := c2_ge_t (a := i) (b := o.length) (by omega) (by omega) hc
      have hi2 : i = o.length := by omega
      exact ar_R M_R_becomeAllOf rfl rfl rfl rfl (⟨rfl, hF, by rw [← hi2]; exact isR_iff.mpr ⟨by omega, hO, _, _, _, hA, hC⟩⟩)
    · have hc := c2_ge_f (a := i) (b := o.length) (by omega) (by omega) hc
      refine ar_go M_R_becomeAllOf 4 _ 19 _ [some (.ref r), some (.ref s), some (.int (nI i))] _ [.ref r, .int (nI i), .ref s, .ref r] rfl ?_
      refine ar_get M_R_becomeAllOf rfl rfl hO rfl ?_
      refine ar_CV M_R_becomeAllOf rfl rfl (Or.inl rfl) rfl rfl (Nat.le_of_ble_eq_true rfl) hO M_R_copyRecord (Nat.le_of_ble_eq_true rfl) (c_R_copyRecord X d _ hrs hss (Or.inr hap) hO hA hr2 ⟨hw2, hg2, hm2⟩ (by omega) (by omega) (by rw [(hfa2 i (by omega)).2.2]; exact nar_bi _)) (fun r1 h2 hq => ?_)
      obtain ⟨rfl, hf, hA2⟩ := hq
      refine ⟨hf.1, ?_⟩
      have hO := hO.fr hf (by simp)
      have kk := hf
      show ar Pg _ _ _ 25 [some (.ref r), some (.ref s), some (.int (nI i))] [] _ _
      refine ar_go M_R_becomeAllOf 2 _ 27 _ [some (.ref r), some (.ref s), some (.int (nI i))] _ [.ref r, .ref r] rfl ?_
      refine ar_get M_R_becomeAllOf rfl rfl hO rfl ?_
      refine ar_go M_R_becomeAllOf 2 _ 32 _ [some (.ref r), some (.ref s), some (.int (nI i))] _ [.int ((nI (fil (fun _ => true) o i).length) + nI 1), .ref r] rfl ?_
      refine ar_put M_R_becomeAllOf rfl rfl hO (Nat.le_of_ble_eq_true rfl) rfl (Nat.le_of_ble_eq_true rfl) (fun h3 hf he => ?_)
      have hO : h3[r]? = some (.inr (1, [.ref (r + 1), .ref (r + 2), .ref (r + 3), .int ((nI (fil (fun _ => true) o i).length) + nI 1)])) := he
      refine ar_go M_R_becomeAllOf 1 _ 38 _ [some (.ref r), some (.ref s), some (.int (nI i + Int32.ofInt 1))] _ [] rfl ?_
      rw [show nI i + Int32.ofInt 1 = nI (i + 1) from nI_add i 1]
      refine ar_go M_R_becomeAllOf 1 _ 7 _ [some (.ref r), some (.ref s), some (.int (nI (i + 1)))] _ [] rfl ?_
      have hq : fil (fun _ => true) o (i + 1) = fil (fun _ => true) o i ++ [en o i] := fil_t rfl
      refine ih (i + 1) h3 _ _ _ (by omega) (by omega) ?_ (hA2.fr hf (by simp) (by simp) (by simp)) ?_ (hF.tr (kk.tr hf (l := [r, r + 1, r + 2, r + 3]) (by simp) (by simp)) (by simp) (by simp))
      · rw [hq, List.length_append]; rw [nI_add] at hO; exact hO
      · rw [hq, (hfa2 i (by omega)).1, (hfa2 i (by omega)).2.1, (hfa2 i (by omega)).2.2]; exact isC_app hC (en o i)
theorem c_R_becomeAllOf (X : am_X) (d : Nat) (h : am_H) {l : Bk} {r s : Nat} {o : Bk} (hR2 : isR h s o) (hrs : r < 1000) (hss : s < 1000) (hap : s + 4 ≤ r ∨ r + 4 ≤ s) (hR : isR h r l) : ar Pg X (d + 1) n_R_becomeAllOf 0 [some (.ref r), some (.ref s), none] [] h (fun rr h' => rr = none ∧ fr [r, r + 1, r + 2, r + 3] h h' ∧ isR h' r (fil (fun _ => true) o o.length)) := by
  obtain ⟨_, hO, f, g, m, hA, _⟩ := isR_iff.mp hR
  generalize hc0 : nI l.length = c0 at hO
  refine ar_go M_R_becomeAllOf 2 _ 2 _ [some (.ref r), some (.ref s), none] _ [.int (nI 0), .ref r] rfl ?_
  refine ar_put M_R_becomeAllOf rfl rfl hO (Nat.le_of_ble_eq_true rfl) rfl (Nat.le_of_ble_eq_true rfl) (fun h2 hf he => ?_)
  have hO : h2[r]? = some (.inr (1, [.ref (r + 1), .ref (r + 2), .ref (r + 3), .int (nI 0)])) := he
  refine ar_go M_R_becomeAllOf 2 _ 7 _ [some (.ref r), some (.ref s), some (.int (nI 0))] _ [] rfl ?_
  exact c_R_becomeAllOf_loop X d h hR2 hrs hss hap (o.length + 1) 0 h2 _ _ _ (by omega) (by omega) hO (hA.fr hf (by simp) (by simp) (by simp)) (fun i hi => absurd hi (Nat.not_lt_zero _)) (hf.mono (by simp))
def zrB (k : Nat) (A : Nat → Nat) (o : Bk) (i : Nat) : Bool := decide (hvS A (wd o i) k 0 = 0)
theorem c_R_becomeZerosAmong_loop (X : am_X) (d : Nat) (h : am_H) {r s : Nat} {o : Bk} {y k : Nat} {A : Nat → Nat} (hP : isP h y k A) (hys : y < 1000) (hyr : y + 2 ≤ r ∨ r + 4 ≤ y) (hW2 : bkW o) (hR2 : isR h s o) (hrs : r < 1000) (hss : s < 1000) (hap : s + 4 ≤ r ∨ r + 4 ≤ s) : ∀ (n i : Nat) (h1 : am_H) (f g m : Nat → Int32), o.length - i < n → i ≤ o.length → isO h1 r (nI (fil (zrB k A o) o i).length) → isA h1 r f g m → isC (fil (zrB k A o) o i) f g m → fr [r, r + 1, r + 2, r + 3] h h1 → ar Pg X (d + 1 + 1) n_R_becomeZerosAmong 7 [some (.ref r), some (.ref s), some (.ref y), some (.int (nI i))] [] h1 (fun rr h' => rr = none ∧ fr [r, r + 1, r + 2, r + 3] h h' ∧ isR h' r (fil (zrB k A o) o o.length)) := by
  intro n
  induction n with
  | zero => intro i h1 f g m hk; omega
  | succ n ih =>
    intro i h1 f g m hk hil hO hA hC hF
    have hR21 : isR h1 s o := hR2.fr hF (by simp; omega) (by simp; omega) (by simp; omega) (by simp; omega)
    obtain ⟨hlen2, hr2, f2, g2, m2, hw2, hg2, hm2, hfa2⟩ := hR21
    have hcl := fil_len (zrB k A o) o i
    refine ar_go M_R_becomeZerosAmong 2 _ 9 _ [some (.ref r), some (.ref s), some (.ref y), some (.int (nI i))] _ [.ref s, .int (nI i)] rfl ?_
    refine ar_get M_R_becomeZerosAmong rfl rfl hr2 rfl ?_
    refine ar_icmp M_R_becomeZerosAmong rfl rfl (fun hc => ?_) (fun hc => ?_)
    · have hc := c2_ge_t (a := i) (b := o.length) (by omega) (by omega) hc
      have hi2 : i = o.length := by omega
      exact ar_R M_R_becomeZerosAmong rfl rfl rfl rfl (⟨rfl, hF, by rw [← hi2]; exact isR_iff.mpr ⟨by omega, hO, _, _, _, hA, hC⟩⟩)
    · have hc := c2_ge_f (a := i) (b := o.length) (by omega) (by omega) hc
      have hwi := hW2 i (by omega)
      have hPn := hP.fr hF (by simp; omega) (by simp; omega)
      refine ar_go M_R_becomeZerosAmong 2 _ 17 _ [some (.ref r), some (.ref s), some (.ref y), some (.int (nI i))] _ [.ref s, .ref y] rfl ?_
      refine ar_get M_R_becomeZerosAmong rfl rfl hr2 rfl ?_
      refine ar_go M_R_becomeZerosAmong 1 _ 21 _ [some (.ref r), some (.ref s), some (.ref y), some (.int (nI i))] _ [.int (nI i), .ref (s + 1), .ref y] rfl ?_
      refine ar_iald M_R_becomeZerosAmong rfl (by unfold am_x0; omega) hw2 (vp_in_nI (by omega) (by decide)) ?_
      rw [nI_clamp (n := i) (by omega)]
      refine ar_top (w := .int (nI (wd o i))) (congrArg Value.int ((hfa2 i (by omega)).1)) ?_
      refine ar_go M_R_becomeZerosAmong 1 _ 23 _ [some (.ref r), some (.ref s), some (.ref y), some (.int (nI i))] _ [.long ((nI (wd o i)).toInt64), .ref y] rfl ?_
      refine ar_top (w := .long (lN (wd o i))) (congrArg Value.long (nI_l (by omega))) ?_
      refine ar_CV M_R_becomeZerosAmong rfl rfl (Or.inl rfl) rfl rfl (Nat.le_of_ble_eq_true rfl) hPn.2.1 M_Y_valueAt (Nat.le_of_ble_eq_true rfl) (c_Y_valueAt X d _ hPn hys (by omega)) (fun r1 h1 hq => ?_)
      obtain ⟨rfl, rfl⟩ := hq
      refine ⟨rfl, ?_⟩
      show ar Pg _ _ _ 26 [some (.ref r), some (.ref s), some (.ref y), some (.int (nI i))] [.long (lN (hvS A (wd o i) k 0))] _ _
      have hvl := hvS_lt A (wd o i) k 0
      refine ar_go M_R_becomeZerosAmong 2 _ 28 _ [some (.ref r), some (.ref s), some (.ref y), some (.int (nI i))] _ [.int (lg_cmp (lN (hvS A (wd o i) k 0)) (lN 0))] rfl ?_
      refine ar_top (w := .int (if hvS A (wd o i) k 0 = 0 then 0 else 1)) (congrArg Value.int (lcmp0 hvl)) ?_
      by_cases h0 : hvS A (wd o i) k 0 = 0
      · rw [if_pos h0]
        have hp : zrB k A o i = true := decide_eq_true h0
        refine ar_if M_R_becomeZerosAmong rfl rfl (fun z => absurd z (by decide)) (fun _ => ?_)
        refine ar_go M_R_becomeZerosAmong 4 _ 35 _ [some (.ref r), some (.ref s), some (.ref y), some (.int (nI i))] _ [.ref r, .int (nI i), .ref s, .ref r] rfl ?_
        refine ar_get M_R_becomeZerosAmong rfl rfl hO rfl ?_
        refine ar_CV M_R_becomeZerosAmong rfl rfl (Or.inl rfl) rfl rfl (Nat.le_of_ble_eq_true rfl) hO M_R_copyRecord (Nat.le_of_ble_eq_true rfl) (c_R_copyRecord X (d + 1) _ hrs hss (Or.inr hap) hO hA hr2 ⟨hw2, hg2, hm2⟩ (by omega) (by omega) (by rw [(hfa2 i (by omega)).2.2]; exact nar_bi _)) (fun r1 h2 hq => ?_)
        obtain ⟨rfl, hf, hA2⟩ := hq
        refine ⟨hf.1, ?_⟩
        have hO := hO.fr hf (by simp)
        have kk := hf
        show ar Pg _ _ _ 41 [some (.ref r), some (.ref s), some (.ref y), some (.int (nI i))] [] _ _
        refine ar_go M_R_becomeZerosAmong 2 _ 43 _ [some (.ref r), some (.ref s), some (.ref y), some (.int (nI i))] _ [.ref r, .ref r] rfl ?_
        refine ar_get M_R_becomeZerosAmong rfl rfl hO rfl ?_
        refine ar_go M_R_becomeZerosAmong 2 _ 48 _ [some (.ref r), some (.ref s), some (.ref y), some (.int (nI i))] _ [.int ((nI (fil (zrB k A o) o i).length) + nI 1), .ref r] rfl ?_
        refine ar_put M_R_becomeZerosAmong rfl rfl hO (Nat.le_of_ble_eq_true rfl) rfl (Nat.le_of_ble_eq_true rfl) (fun h3 hf he => ?_)
        have hO : h3[r]? = some (.inr (1, [.ref (r + 1), .ref (r + 2), .ref (r + 3), .int ((nI (fil (zrB k A o) o i).length) + nI 1)])) := he
        refine ar_go M_R_becomeZerosAmong 1 _ 54 _ [some (.ref r), some (.ref s), some (.ref y), some (.int (nI i + Int32.ofInt 1))] _ [] rfl ?_
        rw [show nI i + Int32.ofInt 1 = nI (i + 1) from nI_add i 1]
        refine ar_go M_R_becomeZerosAmong 1 _ 7 _ [some (.ref r), some (.ref s), some (.ref y), some (.int (nI (i + 1)))] _ [] rfl ?_
        have hq : fil (zrB k A o) o (i + 1) = fil (zrB k A o) o i ++ [en o i] := fil_t hp
        refine ih (i + 1) h3 _ _ _ (by omega) (by omega) ?_ (hA2.fr hf (by simp) (by simp) (by simp)) ?_ (hF.tr (kk.tr hf (l := [r, r + 1, r + 2, r + 3]) (by simp) (by simp)) (by simp) (by simp))
        · rw [hq, List.length_append]; rw [nI_add] at hO; exact hO
        · rw [hq, (hfa2 i (by omega)).1, (hfa2 i (by omega)).2.1, (hfa2 i (by omega)).2.2]; exact isC_app hC (en o i)
      · rw [if_neg h0]
        have hp : zrB k A o i = false := decide_eq_false h0
        refine ar_if M_R_becomeZerosAmong rfl rfl (fun _ => ?_) (fun z => absurd z (by decide))
        refine ar_go M_R_becomeZerosAmong 1 _ 54 _ [some (.ref r), some (.ref s), some (.ref y), some (.int (nI i + Int32.ofInt 1))] _ [] rfl ?_
        rw [show nI i + Int32.ofInt 1 = nI (i + 1) from nI_add i 1]
        refine ar_go M_R_becomeZerosAmong 1 _ 7 _ [some (.ref r), some (.ref s), some (.ref y), some (.int (nI (i + 1)))] _ [] rfl ?_
        rw [← fil_f (P := zrB k A o) (o := o) hp] at hO hC
        exact ih (i + 1) h1 _ _ _ (by omega) (by omega) hO hA hC hF
theorem c_R_becomeZerosAmong (X : am_X) (d : Nat) (h : am_H) {l : Bk} {r s : Nat} {o : Bk} {y k : Nat} {A : Nat → Nat} (hP : isP h y k A) (hys : y < 1000) (hyr : y + 2 ≤ r ∨ r + 4 ≤ y) (hW2 : bkW o) (hR2 : isR h s o) (hrs : r < 1000) (hss : s < 1000) (hap : s + 4 ≤ r ∨ r + 4 ≤ s) (hR : isR h r l) : ar Pg X (d + 1 + 1) n_R_becomeZerosAmong 0 [some (.ref r), some (.ref s), some (.ref y), none] [] h (fun rr h' => rr = none ∧ fr [r, r + 1, r + 2, r + 3] h h' ∧ isR h' r (fil (zrB k A o) o o.length)) := by
  obtain ⟨_, hO, f, g, m, hA, _⟩ := isR_iff.mp hR
  generalize hc0 : nI l.length = c0 at hO
  refine ar_go M_R_becomeZerosAmong 2 _ 2 _ [some (.ref r), some (.ref s), some (.ref y), none] _ [.int (nI 0), .ref r] rfl ?_
  refine ar_put M_R_becomeZerosAmong rfl rfl hO (Nat.le_of_ble_eq_true rfl) rfl (Nat.le_of_ble_eq_true rfl) (fun h2 hf he => ?_)
  have hO : h2[r]? = some (.inr (1, [.ref (r + 1), .ref (r + 2), .ref (r + 3), .int (nI 0)])) := he
  refine ar_go M_R_becomeZerosAmong 2 _ 7 _ [some (.ref r), some (.ref s), some (.ref y), some (.int (nI 0))] _ [] rfl ?_
  exact c_R_becomeZerosAmong_loop X d h hP hys hyr hW2 hR2 hrs hss hap (o.length + 1) 0 h2 _ _ _ (by omega) (by omega) hO (hA.fr hf (by simp) (by simp) (by simp)) (fun i hi => absurd hi (Nat.not_lt_zero _)) (hf.mono (by simp))
def knB (l o : Bk) (i : Nat) : Bool := !hasAt o (pos o (wd l i / 1024)) (wd l i / 1024) || decide (wd o (pos o (wd l i / 1024)) < wd l i)
theorem c_R_kn_loop (X : am_X) (d : Nat) (h : am_H) {r s : Nat} {l o : Bk} (hR2 : isR h s o) (hlen : l.length ≤ 64) (hrs : r < 1000) (hss : s < 1000) (hap : s + 4 ≤ r ∨ r + 4 ≤ s) (hS2 : bkS o) (hW2 : bkW o) (hW : bkW l) : ∀ (n i : Nat) (h1 : am_H) (f g m : Nat → Int32) (x4 x5 : Option Value), l.length - i < n → i ≤ l.length → isO h1 r (nI (fil (knB l o) l i).length) → isA h1 r f g m → isC (fil (knB l o) l i) f g m → (∀ j, i ≤ j → j < l.length → f j = nI (wd l j) ∧ g j = gd l j ∧ m j = bi (dd l j)) → fr [r, r + 1, r + 2, r + 3] h h1 → ar Pg X (d + 1) n_R_keepNewsFor 12 [some (.ref r), some (.ref s), some (.int (nI l.length)), some (.int (nI i)), x4, x5] [] h1 (fun rr h' => rr = none ∧ fr [r, r + 1, r + 2, r + 3] h h' ∧ isR h' r (fil (knB l o) l l.length)) := by
  intro n
  induction n with
  | zero => intro i h1 f g m x4 x5 hk; omega
  | succ n ih =>
    intro i h1 f g m x4 x5 hk hil hO hA hC hT hF
    have hR21 : isR h1 s o := hR2.fr hF (by simp; omega) (by simp; omega) (by simp; omega) (by simp; omega)
    have hR210 := hR21
    obtain ⟨hlen2, hr2, f2, g2, m2, hw2, hg2, hm2, hfa2⟩ := hR210
    have hcl := fil_len (knB l o) l i
    refine ar_go M_R_keepNewsFor 2 _ 14 _ [some (.ref r), some (.ref s), some (.int (nI l.length)), some (.int (nI i)), x4, x5] _ [.int (nI l.length), .int (nI i)] rfl ?_
    refine ar_icmp M_R_keepNewsFor rfl rfl (fun hc => ?_) (fun hc => ?_)
    · have hc := c2_ge_t (a := i) (b := l.length) (by omega) (by omega) hc
      have hi2 : i = l.length := by omega
      exact ar_R M_R_keepNewsFor rfl rfl rfl rfl (⟨rfl, hF, by rw [← hi2]; exact isR_iff.mpr ⟨by omega, hO, _, _, _, hA, hC⟩⟩)
    · have hc := c2_ge_f (a := i) (b := l.length) (by omega) (by omega) hc
      have hwi := hW i (by omega)
      have hti := hT i (Nat.le_refl _) (by omega)
      refine ar_go M_R_keepNewsFor 1 _ 18 _ [some (.ref r), some (.ref s), some (.int (nI l.length)), some (.int (nI i)), x4, x5] _ [.ref r] rfl ?_
      refine ar_get M_R_keepNewsFor rfl rfl hO rfl ?_
      refine ar_go M_R_keepNewsFor 1 _ 22 _ [some (.ref r), some (.ref s), some (.int (nI l.length)), some (.int (nI i)), x4, x5] _ [.int (nI i), .ref (r + 1)] rfl ?_
      refine ar_iald M_R_keepNewsFor rfl (by unfold am_x0; omega) hA.1 (vp_in_nI (by omega) (by decide)) ?_
      rw [nI_clamp (n := i) (by omega)]
      refine ar_top (w := .int (nI (wd l i))) (congrArg Value.int hti.1) ?_
      refine ar_go M_R_keepNewsFor 1 _ 26 _ [some (.ref r), some (.ref s), some (.int (nI l.length)), some (.int (nI i)), x4, x5] _ [.int (nI 1024), .int (nI (wd l i))] rfl ?_
      refine ar_idiv M_R_keepNewsFor rfl (by decide) ?_
      refine ar_top (w := .int (nI ((wd l i) / 1024))) (congrArg Value.int (pk_div (by omega) (by decide) (by decide))) ?_
      refine ar_go M_R_keepNewsFor 3 _ 32 _ [some (.ref r), some (.ref s), some (.int (nI l.length)), some (.int (nI i)), some (.int (nI ((wd l i) / 1024))), x5] _ [.int (nI ((wd l i) / 1024)), .ref s] rfl ?_
      refine ar_CV M_R_keepNewsFor rfl rfl (Or.inl rfl) rfl rfl (Nat.le_of_ble_eq_true rfl) hr2 M_R_placeOf (Nat.le_of_ble_eq_true rfl) (c_R_pos X d _ hR21 hss hS2 hW2 (by omega)) (fun r1 h1 hq => ?_)
      obtain ⟨rfl, rfl⟩ := hq
      refine ⟨rfl, ?_⟩
      show ar Pg _ _ _ 35 [some (.ref r), some (.ref s), some (.int (nI l.length)), some (.int (nI i)), some (.int (nI ((wd l i) / 1024))), x5] [.int (nI (pos o (wd l i / 1024)))] _ _
      have hpl := (pos_pl o (wd l i / 1024) hS2).1
      refine ar_go M_R_keepNewsFor 4 _ 42 _ [some (.ref r), some (.ref s), some (.int (nI l.length)), some (.int (nI i)), some (.int (nI ((wd l i) / 1024))), some (.int (nI (pos o (wd l i / 1024))))] _ [.int (nI ((wd l i) / 1024)), .int (nI (pos o (wd l i / 1024))), .ref s] rfl ?_
      refine ar_CV M_R_keepNewsFor rfl rfl (Or.inl rfl) rfl rfl (Nat.le_of_ble_eq_true rfl) hr2 M_R_holdsAt (Nat.le_of_ble_eq_true rfl) (c_R_holdsAt X d _ hR21 hss hW2 (by omega) (by omega)) (fun r1 h1 hq => ?_)
      obtain ⟨rfl, rfl⟩ := hq
      refine ⟨rfl, ?_⟩
      show ar Pg _ _ _ 45 [some (.ref r), some (.ref s), some (.int (nI l.length)), some (.int (nI i)), some (.int (nI ((wd l i) / 1024))), some (.int (nI (pos o (wd l i / 1024))))] [.int (bi (hasAt o (pos o (wd l i / 1024)) (wd l i / 1024)))] _ _
      refine ar_if M_R_keepNewsFor rfl rfl (fun hc2 => ?_) (fun hc2 => ?_)
      · have hc2 := bi_eq_t hc2
        have hp : knB l o i = true := by simp [knB, hc2]
        refine ar_go M_R_keepNewsFor 4 _ 68 _ [some (.ref r), some (.ref s), some (.int (nI l.length)), some (.int (nI i)), some (.int (nI ((wd l i) / 1024))), some (.int (nI (pos o (wd l i / 1024))))] _ [.ref r, .int (nI i), .ref r, .ref r] rfl ?_
        refine ar_get M_R_keepNewsFor rfl rfl hO rfl ?_
        refine ar_CV M_R_keepNewsFor rfl rfl (Or.inl rfl) rfl rfl (Nat.le_of_ble_eq_true rfl) hO M_R_copyRecord (Nat.le_of_ble_eq_true rfl) (c_R_copyRecord X d _ hrs hrs (Or.inl rfl) hO hA hO hA (by omega) (by omega) (by rw [(hT i (Nat.le_refl _) (by omega)).2.2]; exact nar_bi _)) (fun r1 h2 hq => ?_)
        obtain ⟨rfl, hf, hA2⟩ := hq
        refine ⟨hf.1, ?_⟩
        have hO := hO.fr hf (by simp)
        have kk := hf
        show ar Pg _ _ _ 74 [some (.ref r), some (.ref s), some (.int (nI l.length)), some (.int (nI i)), some (.int (nI ((wd l i) / 1024))), some (.int (nI (pos o (wd l i / 1024))))] [] _ _
        refine ar_go M_R_keepNewsFor 2 _ 76 _ [some (.ref r), some (.ref s), some (.int (nI l.length)), some (.int (nI i)), some (.int (nI ((wd l i) / 1024))), some (.int (nI (pos o (wd l i / 1024))))] _ [.ref r, .ref r] rfl ?_
        refine ar_get M_R_keepNewsFor rfl rfl hO rfl ?_
        refine ar_go M_R_keepNewsFor 2 _ 81 _ [some (.ref r), some (.ref s), some (.int (nI l.length)), some (.int (nI i)), some (.int (nI ((wd l i) / 1024))), some (.int (nI (pos o (wd l i / 1024))))] _ [.int ((nI (fil (knB l o) l i).length) + nI 1), .ref r] rfl ?_
        refine ar_put M_R_keepNewsFor rfl rfl hO (Nat.le_of_ble_eq_true rfl) rfl (Nat.le_of_ble_eq_true rfl) (fun h3 hf he => ?_)
        have hO : h3[r]? = some (.inr (1, [.ref (r + 1), .ref (r + 2), .ref (r + 3), .int ((nI (fil (knB l o) l i).length) + nI 1)])) := he
        refine ar_go M_R_keepNewsFor 1 _ 87 _ [some (.ref r), some (.ref s), some (.int (nI l.length)), some (.int (nI i + Int32.ofInt 1)), some (.int (nI ((wd l i) / 1024))), some (.int (nI (pos o (wd l i / 1024))))] _ [] rfl ?_
        rw [show nI i + Int32.ofInt 1 = nI (i + 1) from nI_add i 1]
        refine ar_go M_R_keepNewsFor 1 _ 12 _ [some (.ref r), some (.ref s), some (.int (nI l.length)), some (.int (nI (i + 1))), some (.int (nI ((wd l i) / 1024))), some (.int (nI (pos o (wd l i / 1024))))] _ [] rfl ?_
        have hq : fil (knB l o) l (i + 1) = fil (knB l o) l i ++ [en l i] := fil_t hp
        have hti := hT i (Nat.le_refl _) (by omega)
        refine ih (i + 1) h3 _ _ _ _ _ (by omega) (by omega) ?_ (hA2.fr hf (by simp) (by simp) (by simp)) ?_ (fun j j1 j2 => ?_) (hF.tr (kk.tr hf (l := [r, r + 1, r + 2, r + 3]) (by simp) (by simp)) (by simp) (by simp))
        · rw [hq, List.length_append]; rw [nI_add] at hO; exact hO
        · rw [hq, hti.1, hti.2.1, hti.2.2]; exact isC_app hC (en l i)
        · rw [pk_un (by omega), pk_un (by omega), pk_un (by omega)]; exact hT j (by omega) j2
      · have hc2 := bi_eq_f hc2
        have hh := hasAt_iff.mp hc2
        have hwp := hW2 _ hh.1
        refine ar_go M_R_keepNewsFor 1 _ 49 _ [some (.ref r), some (.ref s), some (.int (nI l.length)), some (.int (nI i)), some (.int (nI ((wd l i) / 1024))), some (.int (nI (pos o (wd l i / 1024))))] _ [.ref s] rfl ?_
        refine ar_get M_R_keepNewsFor rfl rfl hr2 rfl ?_
        refine ar_go M_R_keepNewsFor 1 _ 54 _ [some (.ref r), some (.ref s), some (.int (nI l.length)), some (.int (nI i)), some (.int (nI ((wd l i) / 1024))), some (.int (nI (pos o (wd l i / 1024))))] _ [.int (nI (pos o (wd l i / 1024))), .ref (s + 1)] rfl ?_
        refine ar_iald M_R_keepNewsFor rfl (by unfold am_x0; omega) hw2 (vp_in_nI (by omega) (by decide)) ?_
        rw [nI_clamp (n := (pos o (wd l i / 1024))) (by omega)]
        refine ar_top (w := .int (nI (wd o (pos o (wd l i / 1024))))) (congrArg Value.int ((hfa2 _ hh.1).1)) ?_
        refine ar_go M_R_keepNewsFor 1 _ 56 _ [some (.ref r), some (.ref s), some (.int (nI l.length)), some (.int (nI i)), some (.int (nI ((wd l i) / 1024))), some (.int (nI (pos o (wd l i / 1024))))] _ [.ref r, .int (nI (wd o (pos o (wd l i / 1024))))] rfl ?_
        refine ar_get M_R_keepNewsFor rfl rfl hO rfl ?_
        refine ar_go M_R_keepNewsFor 1 _ 60 _ [some (.ref r), some (.ref s), some (.int (nI l.length)), some (.int (nI i)), some (.int (nI ((wd l i) / 1024))), some (.int (nI (pos o (wd l i / 1024))))] _ [.int (nI i), .ref (r + 1), .int (nI (wd o (pos o (wd l i / 1024))))] rfl ?_
        refine ar_iald M_R_keepNewsFor rfl (by unfold am_x0; omega) hA.1 (vp_in_nI (by omega) (by decide)) ?_
        rw [nI_clamp (n := i) (by omega)]
        refine ar_top (w := .int (nI (wd l i))) (congrArg Value.int hti.1) ?_
        refine ar_icmp M_R_keepNewsFor rfl rfl (fun hc3 => ?_) (fun hc3 => ?_)
        · have hc3 := c2_ge_t (a := (wd o (pos o (wd l i / 1024)))) (b := (wd l i)) (by omega) (by omega) hc3
          have hp : knB l o i = false := by simp [knB, hc2, hc3]
          refine ar_go M_R_keepNewsFor 1 _ 87 _ [some (.ref r), some (.ref s), some (.int (nI l.length)), some (.int (nI i + Int32.ofInt 1)), some (.int (nI ((wd l i) / 1024))), some (.int (nI (pos o (wd l i / 1024))))] _ [] rfl ?_
          rw [show nI i + Int32.ofInt 1 = nI (i + 1) from nI_add i 1]
          refine ar_go M_R_keepNewsFor 1 _ 12 _ [some (.ref r), some (.ref s), some (.int (nI l.length)), some (.int (nI (i + 1))), some (.int (nI ((wd l i) / 1024))), some (.int (nI (pos o (wd l i / 1024))))] _ [] rfl ?_
          rw [← fil_f (P := knB l o) (o := l) hp] at hO hC
          exact ih (i + 1) h1 _ _ _ _ _ (by omega) (by omega) hO hA hC (fun j j1 j2 => hT j (by omega) j2) hF
        · have hc3 := c2_ge_f (a := (wd o (pos o (wd l i / 1024)))) (b := (wd l i)) (by omega) (by omega) hc3
          have hp : knB l o i = true := by simp [knB, hc2, hc3]
          refine ar_go M_R_keepNewsFor 4 _ 68 _ [some (.ref r), some (.ref s), some (.int (nI l.length)), some (.int (nI i)), some (.int (nI ((wd l i) / 1024))), some (.int (nI (pos o (wd l i / 1024))))] _ [.ref r, .int (nI i), .ref r, .ref r] rfl ?_
          refine ar_get M_R_keepNewsFor rfl rfl hO rfl ?_
          refine ar_CV M_R_keepNewsFor rfl rfl (Or.inl rfl) rfl rfl (Nat.le_of_ble_eq_true rfl) hO M_R_copyRecord (Nat.le_of_ble_eq_true rfl) (c_R_copyRecord X d _ hrs hrs (Or.inl rfl) hO hA hO hA (by omega) (by omega) (by rw [(hT i (Nat.le_refl _) (by omega)).2.2]; exact nar_bi _)) (fun r1 h2 hq => ?_)
          obtain ⟨rfl, hf, hA2⟩ := hq
          refine ⟨hf.1, ?_⟩
          have hO := hO.fr hf (by simp)
          have kk := hf
          show ar Pg _ _ _ 74 [some (.ref r), some (.ref s), some (.int (nI l.length)), some (.int (nI i)), some (.int (nI ((wd l i) / 1024))), some (.int (nI (pos o (wd l i / 1024))))] [] _ _
          refine ar_go M_R_keepNewsFor 2 _ 76 _ [some (.ref r), some (.ref s), some (.int (nI l.length)), some (.int (nI i)), some (.int (nI ((wd l i) / 1024))), some (.int (nI (pos o (wd l i / 1024))))] _ [.ref r, .ref r] rfl ?_
          refine ar_get M_R_keepNewsFor rfl rfl hO rfl ?_
          refine ar_go M_R_keepNewsFor 2 _ 81 _ [some (.ref r), some (.ref s), some (.int (nI l.length)), some (.int (nI i)), some (.int (nI ((wd l i) / 1024))), some (.int (nI (pos o (wd l i / 1024))))] _ [.int ((nI (fil (knB l o) l i).length) + nI 1), .ref r] rfl ?_
          refine ar_put M_R_keepNewsFor rfl rfl hO (Nat.le_of_ble_eq_true rfl) rfl (Nat.le_of_ble_eq_true rfl) (fun h3 hf he => ?_)
          have hO : h3[r]? = some (.inr (1, [.ref (r + 1), .ref (r + 2), .ref (r + 3), .int ((nI (fil (knB l o) l i).length) + nI 1)])) := he
          refine ar_go M_R_keepNewsFor 1 _ 87 _ [some (.ref r), some (.ref s), some (.int (nI l.length)), some (.int (nI i + Int32.ofInt 1)), some (.int (nI ((wd l i) / 1024))), some (.int (nI (pos o (wd l i / 1024))))] _ [] rfl ?_
          rw [show nI i + Int32.ofInt 1 = nI (i + 1) from nI_add i 1]
          refine ar_go M_R_keepNewsFor 1 _ 12 _ [some (.ref r), some (.ref s), some (.int (nI l.length)), some (.int (nI (i + 1))), some (.int (nI ((wd l i) / 1024))), some (.int (nI (pos o (wd l i / 1024))))] _ [] rfl ?_
          have hq : fil (knB l o) l (i + 1) = fil (knB l o) l i ++ [en l i] := fil_t hp
          have hti := hT i (Nat.le_refl _) (by omega)
          refine ih (i + 1) h3 _ _ _ _ _ (by omega) (by omega) ?_ (hA2.fr hf (by simp) (by simp) (by simp)) ?_ (fun j j1 j2 => ?_) (hF.tr (kk.tr hf (l := [r, r + 1, r + 2, r + 3]) (by simp) (by simp)) (by simp) (by simp))
          · rw [hq, List.length_append]; rw [nI_add] at hO; exact hO
          · rw [hq, hti.1, hti.2.1, hti.2.2]; exact isC_app hC (en l i)
          · rw [pk_un (by omega), pk_un (by omega), pk_un (by omega)]; exact hT j (by omega) j2
theorem c_R_keepNewsFor (X : am_X) (d : Nat) (h : am_H) {r s : Nat} {l o : Bk} (hR2 : isR h s o) (hlen : l.length ≤ 64) (hrs : r < 1000) (hss : s < 1000) (hap : s + 4 ≤ r ∨ r + 4 ≤ s) (hS2 : bkS o) (hW2 : bkW o) (hW : bkW l) (hR : isR h r l) : ar Pg X (d + 1) n_R_keepNewsFor 0 [some (.ref r), some (.ref s), none, none, none, none] [] h (fun rr h' => rr = none ∧ fr [r, r + 1, r + 2, r + 3] h h' ∧ isR h' r (fil (knB l o) l l.length)) := by
  obtain ⟨_, hO, f, g, m, hA, hC⟩ := isR_iff.mp hR
  refine ar_go M_R_keepNewsFor 1 _ 1 _ [some (.ref r), some (.ref s), none, none, none, none] _ [.ref r] rfl ?_
  refine ar_get M_R_keepNewsFor rfl rfl hO rfl ?_
  refine ar_go M_R_keepNewsFor 3 _ 7 _ [some (.ref r), some (.ref s), some (.int (nI l.length)), none, none, none] _ [.int (nI 0), .ref r] rfl ?_
  refine ar_put M_R_keepNewsFor rfl rfl hO (Nat.le_of_ble_eq_true rfl) rfl (Nat.le_of_ble_eq_true rfl) (fun h2 hf he => ?_)
  have hO : h2[r]? = some (.inr (1, [.ref (r + 1), .ref (r + 2), .ref (r + 3), .int (nI 0)])) := he
  refine ar_go M_R_keepNewsFor 2 _ 12 _ [some (.ref r), some (.ref s), some (.int (nI l.length)), some (.int (nI 0)), none, none] _ [] rfl ?_
  exact c_R_kn_loop X d h hR2 hlen hrs hss hap hS2 hW2 hW (l.length + 1) 0 h2 _ _ _ _ _ (by omega) (by omega) hO (hA.fr hf (by simp) (by simp) (by simp)) (fun i hi => absurd hi (Nat.not_lt_zero _)) (fun j _ hj => hC j hj) (hf.mono (by simp))
end
section
/-! What both sides ask first -/
def rng (n : Nat) (v : Int32) : Bool := !am_c2 .lt v 0 && !am_c2 .ge v (nI n)
def rch (v : Int32) : Bool := !am_c2 .lt v (nI 1) && !am_c2 .gt v (nI 16)
def twB (v w : Int32) : Bool := rng 4 v && (rng 4 w && !am_c2 .eq v w)
theorem nn_ex {v : Int32} (h : am_c2 .lt v 0 = false) : ∃ k, k < 2 ^ 31 ∧ v = nI k := by
  have h0 : ¬ v < 0 := of_decide_eq_false h
  refine ⟨v.toInt.toNat, ?_, ?_⟩
  · have := v.toInt_lt
    omega
  · have h1 : 0 ≤ v.toInt := by
      rw [Int32.lt_iff_toInt_lt] at h0
      have : (0 : Int32).toInt = 0 := by decide
      omega
    unfold nI
    apply Int32.toInt_inj.mp
    have h2 := v.toInt_lt
    rw [Int32.toInt_ofNat_of_lt (by omega)]
    omega
theorem rng_ex {n : Nat} (hn : n < 2 ^ 31) {v : Int32} (h : rng n v = true) : ∃ k, k < n ∧ v = nI k := by
  unfold rng at h
  rw [Bool.and_eq_true, Bool.not_eq_true', Bool.not_eq_true'] at h
  obtain ⟨k, hk, rfl⟩ := nn_ex h.1
  exact ⟨k, c2_ge_f hk hn h.2, rfl⟩
theorem rch_ex {v : Int32} (h : rch v = true) : ∃ k, 1 ≤ k ∧ k ≤ 16 ∧ v = nI k := by
  unfold rch at h
  rw [Bool.and_eq_true, Bool.not_eq_true', Bool.not_eq_true'] at h
  have h0 : am_c2 .lt v 0 = false := by
    apply decide_eq_false
    intro z
    refine (of_decide_eq_false h.1 : ¬ v < nI 1) ?_
    rw [Int32.lt_iff_toInt_lt] at z ⊢
    have e0 : (0 : Int32).toInt = 0 := by decide
    have e1 : (nI 1).toInt = 1 := by decide
    omega
  obtain ⟨k, hk, rfl⟩ := nn_ex h0
  have a := c2_lt_f hk (by decide) h.1
  have b := c2_gt_f hk (by decide) h.2
  exact ⟨k, a, b, rfl⟩
theorem twB_ex {v w : Int32} (h : twB v w = true) : ∃ a b, a < 4 ∧ b < 4 ∧ a ≠ b ∧ v = nI a ∧ w = nI b := by
  unfold twB at h
  rw [Bool.and_eq_true, Bool.and_eq_true, Bool.not_eq_true'] at h
  obtain ⟨a, ha, rfl⟩ := rng_ex (by decide) h.1
  obtain ⟨b, hb, rfl⟩ := rng_ex (by decide) h.2.1
  exact ⟨a, b, ha, hb, c2_eq_f (by omega) (by omega) h.2.2, rfl, rfl⟩
theorem cl_nI {k : Nat} (h : k < 2 ^ 31) : (nI k).toNatClampNeg = k := nI_clamp h
theorem c_B_isBank (X : am_X) (d : Nat) (h : am_H) (v : Int32) : ar Pg X d n_B_isBank 0 [some (.int v)] [] h (fun rr h' => rr = some (.int (bi (rng 4 v))) ∧ h' = h) := by
  refine ar_go M_B_isBank 1 _ 1 _ [some (.int v)] _ [.int v] rfl ?_
  refine ar_if M_B_isBank rfl rfl (fun hc => ?_) (fun hc => ?_)
  · refine ar_go M_B_isBank 1 _ 14 _ [some (.int v)] _ [.int (nI 0)] rfl ?_
    exact ar_zret M_B_isBank rfl rfl (Or.inl rfl) (⟨by rw [show rng 4 v = false by simp [rng, hc]]; rfl, rfl⟩)
  · refine ar_go M_B_isBank 2 _ 6 _ [some (.int v)] _ [.int (nI 4), .int v] rfl ?_
    refine ar_icmp M_B_isBank rfl rfl (fun hc2 => ?_) (fun hc2 => ?_)
    · refine ar_go M_B_isBank 1 _ 14 _ [some (.int v)] _ [.int (nI 0)] rfl ?_
      exact ar_zret M_B_isBank rfl rfl (Or.inl rfl) (⟨by rw [show rng 4 v = false by simp [rng, hc2]]; rfl, rfl⟩)
    · refine ar_go M_B_isBank 2 _ 14 _ [some (.int v)] _ [.int (nI 1)] rfl ?_
      exact ar_zret M_B_isBank rfl rfl (Or.inr rfl) (⟨by rw [show rng 4 v = true by simp [rng, hc, hc2]]; rfl, rfl⟩)
theorem c_B_isNumber (X : am_X) (d : Nat) (h : am_H) (v : Int32) : ar Pg X d n_B_isNumber 0 [some (.int v)] [] h (fun rr h' => rr = some (.int (bi (rng 10000 v))) ∧ h' = h) := by
  refine ar_go M_B_isNumber 1 _ 1 _ [some (.int v)] _ [.int v] rfl ?_
  refine ar_if M_B_isNumber rfl rfl (fun hc => ?_) (fun hc => ?_)
  · refine ar_go M_B_isNumber 1 _ 16 _ [some (.int v)] _ [.int (nI 0)] rfl ?_
    exact ar_zret M_B_isNumber rfl rfl (Or.inl rfl) (⟨by rw [show rng 10000 v = false by simp [rng, hc]]; rfl, rfl⟩)
  · refine ar_go M_B_isNumber 2 _ 8 _ [some (.int v)] _ [.int (nI 10000), .int v] rfl ?_
    refine ar_icmp M_B_isNumber rfl rfl (fun hc2 => ?_) (fun hc2 => ?_)
    · refine ar_go M_B_isNumber 1 _ 16 _ [some (.int v)] _ [.int (nI 0)] rfl ?_
      exact ar_zret M_B_isNumber rfl rfl (Or.inl rfl) (⟨by rw [show rng 10000 v = false by simp [rng, hc2]]; rfl, rfl⟩)
    · refine ar_go M_B_isNumber 2 _ 16 _ [some (.int v)] _ [.int (nI 1)] rfl ?_
      exact ar_zret M_B_isNumber rfl rfl (Or.inr rfl) (⟨by rw [show rng 10000 v = true by simp [rng, hc, hc2]]; rfl, rfl⟩)
theorem c_B_isReach (X : am_X) (d : Nat) (h : am_H) (v : Int32) : ar Pg X d n_B_isReach 0 [some (.int v)] [] h (fun rr h' => rr = some (.int (bi (rch v))) ∧ h' = h) := by
  refine ar_go M_B_isReach 2 _ 2 _ [some (.int v)] _ [.int (nI 1), .int v] rfl ?_
  refine ar_icmp M_B_isReach rfl rfl (fun hc => ?_) (fun hc => ?_)
  · refine ar_go M_B_isReach 1 _ 16 _ [some (.int v)] _ [.int (nI 0)] rfl ?_
    exact ar_zret M_B_isReach rfl rfl (Or.inl rfl) (⟨by rw [show rch v = false by simp [rch, hc]]; rfl, rfl⟩)
  · refine ar_go M_B_isReach 2 _ 8 _ [some (.int v)] _ [.int (nI 16), .int v] rfl ?_
    refine ar_icmp M_B_isReach rfl rfl (fun hc2 => ?_) (fun hc2 => ?_)
    · refine ar_go M_B_isReach 1 _ 16 _ [some (.int v)] _ [.int (nI 0)] rfl ?_
      exact ar_zret M_B_isReach rfl rfl (Or.inl rfl) (⟨by rw [show rch v = false by simp [rch, hc2]]; rfl, rfl⟩)
    · refine ar_go M_B_isReach 2 _ 16 _ [some (.int v)] _ [.int (nI 1)] rfl ?_
      exact ar_zret M_B_isReach rfl rfl (Or.inr rfl) (⟨by rw [show rch v = true by simp [rch, hc, hc2]]; rfl, rfl⟩)
theorem c_B_areTwoBanks (X : am_X) (d : Nat) (h : am_H) (v w : Int32) : ar Pg X (d + 1) n_B_areTwoBanks 0 [some (.int v), some (.int w)] [] h (fun rr h' => rr = some (.int (bi (twB v w))) ∧ h' = h) := by
  refine ar_go M_B_areTwoBanks 1 _ 1 _ [some (.int v), some (.int w)] _ [.int v] rfl ?_
  refine ar_CS M_B_areTwoBanks rfl rfl (Nat.le_of_ble_eq_true rfl) rfl rfl (Nat.le_of_ble_eq_true rfl) M_B_isBank (Nat.le_of_ble_eq_true rfl) (c_B_isBank X d _ v) (fun r1 h1 hq => ?_)
  obtain ⟨rfl, rfl⟩ := hq
  refine ⟨rfl, ?_⟩
  show ar Pg _ _ _ 4 [some (.int v), some (.int w)] [.int (bi (rng 4 v))] _ _
  refine ar_if M_B_areTwoBanks rfl rfl (fun hc => ?_) (fun hc => ?_)
  · have hc := bi_eq_t hc
    refine ar_go M_B_areTwoBanks 1 _ 24 _ [some (.int v), some (.int w)] _ [.int (nI 0)] rfl ?_
    exact ar_zret M_B_areTwoBanks rfl rfl (Or.inl rfl) (⟨by rw [show twB v w = false by simp [twB, hc]]; rfl, rfl⟩)
  · have hc := bi_eq_f hc
    refine ar_go M_B_areTwoBanks 1 _ 8 _ [some (.int v), some (.int w)] _ [.int w] rfl ?_
    refine ar_CS M_B_areTwoBanks rfl rfl (Nat.le_of_ble_eq_true rfl) rfl rfl (Nat.le_of_ble_eq_true rfl) M_B_isBank (Nat.le_of_ble_eq_true rfl) (c_B_isBank X d _ w) (fun r1 h1 hq => ?_)
    obtain ⟨rfl, rfl⟩ := hq
    refine ⟨rfl, ?_⟩
    show ar Pg _ _ _ 11 [some (.int v), some (.int w)] [.int (bi (rng 4 w))] _ _
    refine ar_if M_B_areTwoBanks rfl rfl (fun hc2 => ?_) (fun hc2 => ?_)
    · have hc2 := bi_eq_t hc2
      refine ar_go M_B_areTwoBanks 1 _ 24 _ [some (.int v), some (.int w)] _ [.int (nI 0)] rfl ?_
      exact ar_zret M_B_areTwoBanks rfl rfl (Or.inl rfl) (⟨by rw [show twB v w = false by simp [twB, hc2]]; rfl, rfl⟩)
    · have hc2 := bi_eq_f hc2
      refine ar_go M_B_areTwoBanks 2 _ 16 _ [some (.int v), some (.int w)] _ [.int w, .int v] rfl ?_
      refine ar_icmp M_B_areTwoBanks rfl rfl (fun hc3 => ?_) (fun hc3 => ?_)
      · refine ar_go M_B_areTwoBanks 1 _ 24 _ [some (.int v), some (.int w)] _ [.int (nI 0)] rfl ?_
        exact ar_zret M_B_areTwoBanks rfl rfl (Or.inl rfl) (⟨by rw [show twB v w = false by simp [twB, hc3]]; rfl, rfl⟩)
      · refine ar_go M_B_areTwoBanks 2 _ 24 _ [some (.int v), some (.int w)] _ [.int (nI 1)] rfl ?_
        exact ar_zret M_B_areTwoBanks rfl rfl (Or.inr rfl) (⟨by rw [show twB v w = true by simp [twB, hc, hc2, hc3]]; rfl, rfl⟩)
theorem c_M_isBank (X : am_X) (d : Nat) (h : am_H) (v : Int32) : ar Pg X d n_M_isBank 0 [some (.int v)] [] h (fun rr h' => rr = some (.int (bi (rng 4 v))) ∧ h' = h) := by
  refine ar_go M_M_isBank 1 _ 1 _ [some (.int v)] _ [.int v] rfl ?_
  refine ar_if M_M_isBank rfl rfl (fun hc => ?_) (fun hc => ?_)
  · refine ar_go M_M_isBank 1 _ 14 _ [some (.int v)] _ [.int (nI 0)] rfl ?_
    exact ar_zret M_M_isBank rfl rfl (Or.inl rfl) (⟨by rw [show rng 4 v = false by simp [rng, hc]]; rfl, rfl⟩)
  · refine ar_go M_M_isBank 2 _ 6 _ [some (.int v)] _ [.int (nI 4), .int v] rfl ?_
    refine ar_icmp M_M_isBank rfl rfl (fun hc2 => ?_) (fun hc2 => ?_)
    · refine ar_go M_M_isBank 1 _ 14 _ [some (.int v)] _ [.int (nI 0)] rfl ?_
      exact ar_zret M_M_isBank rfl rfl (Or.inl rfl) (⟨by rw [show rng 4 v = false by simp [rng, hc2]]; rfl, rfl⟩)
    · refine ar_go M_M_isBank 2 _ 14 _ [some (.int v)] _ [.int (nI 1)] rfl ?_
      exact ar_zret M_M_isBank rfl rfl (Or.inr rfl) (⟨by rw [show rng 4 v = true by simp [rng, hc, hc2]]; rfl, rfl⟩)
theorem c_M_isNumber (X : am_X) (d : Nat) (h : am_H) (v : Int32) : ar Pg X d n_M_isNumber 0 [some (.int v)] [] h (fun rr h' => rr = some (.int (bi (rng 10000 v))) ∧ h' = h) := by
  refine ar_go M_M_isNumber 1 _ 1 _ [some (.int v)] _ [.int v] rfl ?_
  refine ar_if M_M_isNumber rfl rfl (fun hc => ?_) (fun hc => ?_)
  · refine ar_go M_M_isNumber 1 _ 16 _ [some (.int v)] _ [.int (nI 0)] rfl ?_
    exact ar_zret M_M_isNumber rfl rfl (Or.inl rfl) (⟨by rw [show rng 10000 v = false by simp [rng, hc]]; rfl, rfl⟩)
  · refine ar_go M_M_isNumber 2 _ 8 _ [some (.int v)] _ [.int (nI 10000), .int v] rfl ?_
    refine ar_icmp M_M_isNumber rfl rfl (fun hc2 => ?_) (fun hc2 => ?_)
    · refine ar_go M_M_isNumber 1 _ 16 _ [some (.int v)] _ [.int (nI 0)] rfl ?_
      exact ar_zret M_M_isNumber rfl rfl (Or.inl rfl) (⟨by rw [show rng 10000 v = false by simp [rng, hc2]]; rfl, rfl⟩)
    · refine ar_go M_M_isNumber 2 _ 16 _ [some (.int v)] _ [.int (nI 1)] rfl ?_
      exact ar_zret M_M_isNumber rfl rfl (Or.inr rfl) (⟨by rw [show rng 10000 v = true by simp [rng, hc, hc2]]; rfl, rfl⟩)
theorem c_M_isMany (X : am_X) (d : Nat) (h : am_H) (v : Int32) : ar Pg X d n_M_isMany 0 [some (.int v)] [] h (fun rr h' => rr = some (.int (bi (rch v))) ∧ h' = h) := by
  refine ar_go M_M_isMany 2 _ 2 _ [some (.int v)] _ [.int (nI 1), .int v] rfl ?_
  refine ar_icmp M_M_isMany rfl rfl (fun hc => ?_) (fun hc => ?_)
  · refine ar_go M_M_isMany 1 _ 16 _ [some (.int v)] _ [.int (nI 0)] rfl ?_
    exact ar_zret M_M_isMany rfl rfl (Or.inl rfl) (⟨by rw [show rch v = false by simp [rch, hc]]; rfl, rfl⟩)
  · refine ar_go M_M_isMany 2 _ 8 _ [some (.int v)] _ [.int (nI 16), .int v] rfl ?_
    refine ar_icmp M_M_isMany rfl rfl (fun hc2 => ?_) (fun hc2 => ?_)
    · refine ar_go M_M_isMany 1 _ 16 _ [some (.int v)] _ [.int (nI 0)] rfl ?_
      exact ar_zret M_M_isMany rfl rfl (Or.inl rfl) (⟨by rw [show rch v = false by simp [rch, hc2]]; rfl, rfl⟩)
    · refine ar_go M_M_isMany 2 _ 16 _ [some (.int v)] _ [.int (nI 1)] rfl ?_
      exact ar_zret M_M_isMany rfl rfl (Or.inr rfl) (⟨by rw [show rch v = true by simp [rch, hc, hc2]]; rfl, rfl⟩)
theorem c_M_areTwo (X : am_X) (d : Nat) (h : am_H) (v w : Int32) : ar Pg X (d + 1) n_M_areTwo 0 [some (.int v), some (.int w)] [] h (fun rr h' => rr = some (.int (bi (twB v w))) ∧ h' = h) := by
  refine ar_go M_M_areTwo 1 _ 1 _ [some (.int v), some (.int w)] _ [.int v] rfl ?_
  refine ar_CS M_M_areTwo rfl rfl (Nat.le_of_ble_eq_true rfl) rfl rfl (Nat.le_of_ble_eq_true rfl) M_M_isBank (Nat.le_of_ble_eq_true rfl) (c_M_isBank X d _ v) (fun r1 h1 hq => ?_)
  obtain ⟨rfl, rfl⟩ := hq
  refine ⟨rfl, ?_⟩
  show ar Pg _ _ _ 4 [some (.int v), some (.int w)] [.int (bi (rng 4 v))] _ _
  refine ar_if M_M_areTwo rfl rfl (fun hc => ?_) (fun hc => ?_)
  · have hc := bi_eq_t hc
    refine ar_go M_M_areTwo 1 _ 24 _ [some (.int v), some (.int w)] _ [.int (nI 0)] rfl ?_
    exact ar_zret M_M_areTwo rfl rfl (Or.inl rfl) (⟨by rw [show twB v w = false by simp [twB, hc]]; rfl, rfl⟩)
  · have hc := bi_eq_f hc
    refine ar_go M_M_areTwo 1 _ 8 _ [some (.int v), some (.int w)] _ [.int w] rfl ?_
    refine ar_CS M_M_areTwo rfl rfl (Nat.le_of_ble_eq_true rfl) rfl rfl (Nat.le_of_ble_eq_true rfl) M_M_isBank (Nat.le_of_ble_eq_true rfl) (c_M_isBank X d _ w) (fun r1 h1 hq => ?_)
    obtain ⟨rfl, rfl⟩ := hq
    refine ⟨rfl, ?_⟩
    show ar Pg _ _ _ 11 [some (.int v), some (.int w)] [.int (bi (rng 4 w))] _ _
    refine ar_if M_M_areTwo rfl rfl (fun hc2 => ?_) (fun hc2 => ?_)
    · have hc2 := bi_eq_t hc2
      refine ar_go M_M_areTwo 1 _ 24 _ [some (.int v), some (.int w)] _ [.int (nI 0)] rfl ?_
      exact ar_zret M_M_areTwo rfl rfl (Or.inl rfl) (⟨by rw [show twB v w = false by simp [twB, hc2]]; rfl, rfl⟩)
    · have hc2 := bi_eq_f hc2
      refine ar_go M_M_areTwo 2 _ 16 _ [some (.int v), some (.int w)] _ [.int w, .int v] rfl ?_
      refine ar_icmp M_M_areTwo rfl rfl (fun hc3 => ?_) (fun hc3 => ?_)
      · refine ar_go M_M_areTwo 1 _ 24 _ [some (.int v), some (.int w)] _ [.int (nI 0)] rfl ?_
        exact ar_zret M_M_areTwo rfl rfl (Or.inl rfl) (⟨by rw [show twB v w = false by simp [twB, hc3]]; rfl, rfl⟩)
      · refine ar_go M_M_areTwo 2 _ 24 _ [some (.int v), some (.int w)] _ [.int (nI 1)] rfl ?_
        exact ar_zret M_M_areTwo rfl rfl (Or.inr rfl) (⟨by rw [show twB v w = true by simp [twB, hc, hc2, hc3]]; rfl, rfl⟩)
/-! The class's state -/
def bkV (l : Bk) : Prop := ∀ i, i < l.length → wd l i / 1024 < 10000 ∧ 2 ≤ wd l i % 1024 ∧ wd l i % 1024 < 1002
theorem bkV.W {l : Bk} (h : bkV l) : bkW l := fun i hi => by have := h i hi; omega
theorem stR_V {l : Bk} (hS : bkS l) (hW : bkV l) {e : Nat × Int32 × Bool} (he : e.1 / 1024 < 10000 ∧ 2 ≤ e.1 % 1024 ∧ e.1 % 1024 < 1002) : bkV (stR l e) := by
  have hp := pos_pl l (e.1 / 1024) hS
  unfold stR
  split
  next h =>
    rw [hasAt_iff] at h
    intro i hi
    rw [List.length_set] at hi
    rw [set_wd h.1]
    split
    · exact he
    · exact hW i hi
  next h =>
    split
    · exact hW
    · intro i hi
      rw [insP_len hp.1] at hi
      rw [insP_wd hp.1]
      split
      · exact hW i (by have := hp.1; omega)
      · split
        · exact he
        · exact hW (i - 1) (by omega)
def clL : List Nat := List.range 56
theorem clL_mem {k : Nat} : k ∈ clL ↔ k < 56 := List.mem_range
def isB0 (h : am_H) (s : Int64) : Prop := h[0]? = some (.inr (0, [.ref 1, .ref 2, .ref 6, .ref 10, .long s]))
def isB1 (h : am_H) : Prop := ∃ f : Nat → Option Nat, h[1]? = some (.inl (4, 4, .inr (.inr (.inr (.inr f))))) ∧ ∀ b, b < 4 → f b = some (40 + 4 * b)
def isK (h : am_H) (B : Nat → Bk) : Prop := ∀ b, b < 4 → isR h (40 + 4 * b) (B b) ∧ bkS (B b) ∧ bkV (B b)
def isX (h : am_H) : Prop := isF h ∧ (∃ l, isR h 2 l) ∧ (∃ l, isR h 6 l) ∧ (∃ k A, isP h 15 k A) ∧ (∃ k A, isP h 17 k A) ∧ (∃ ro c M uk, isQ h ro c M uk) ∧ (∃ SA, isLA h 38 18 SA ∧ lt18 SA) ∧ ∃ SB, isLA h 39 18 SB ∧ lt18 SB
def isPr (h : am_H) (u : Nat) (U : Nat → Nat) (l : Nat) (W : Nat → Nat) : Prop := ∃ U1 W1 : Nat → Nat, isP h 11 (u + 1) U1 ∧ isP h 13 (l + 1) W1 ∧ (∀ i, i ≤ u → U1 i = U i) ∧ ∀ i, i ≤ l → W1 i = W i
def isCl (h : am_H) (B : Nat → Bk) (s : Int64) (u : Nat) (U : Nat → Nat) (l : Nat) (W : Nat → Nat) : Prop := isB0 h s ∧ isB1 h ∧ isK h B ∧ isX h ∧ isPr h u U l W
theorem isB1.mv {h h1 : am_H} {s : List Nat} (H : isB1 h) (hf : fr s h h1) (h0 : 1 ∉ s) : isB1 h1 := by
  obtain ⟨f, a, b⟩ := H
  exact ⟨f, hf.at a h0, b⟩
theorem isK.mv {h h1 : am_H} {B : Nat → Bk} {s : List Nat} (H : isK h B) (hf : fr s h h1) (h0 : ∀ k, 40 ≤ k → k < 56 → k ∉ s) : isK h1 B := fun b hb =>
  ⟨(H b hb).1.fr hf (h0 _ (by omega) (by omega)) (h0 _ (by omega) (by omega)) (h0 _ (by omega) (by omega)) (h0 _ (by omega) (by omega)), (H b hb).2⟩
theorem isPr.mv {h h1 : am_H} {u : Nat} {U : Nat → Nat} {l : Nat} {W : Nat → Nat} {s : List Nat} (H : isPr h u U l W) (hf : fr s h h1) (h0 : ∀ k, 11 ≤ k → k < 15 → k ∉ s) : isPr h1 u U l W := by
  obtain ⟨U1, W1, a, b, c⟩ := H
  exact ⟨U1, W1, a.fr hf (h0 _ (by omega) (by omega)) (h0 _ (by omega) (by omega)), b.fr hf (h0 _ (by omega) (by omega)) (h0 _ (by omega) (by omega)), c⟩
theorem isX.mv {h h1 : am_H} {s : List Nat} (H : isX h) (hf : fr s h h1) (h0 : ∀ k, 2 ≤ k → k < 11 → k ∉ s) (h2 : ∀ k, 15 ≤ k → k < 40 → k ∉ s) : isX h1 := by
  obtain ⟨a, ⟨l, b⟩, ⟨l2, c⟩, ⟨k, A, d⟩, ⟨k2, A2, e⟩, ⟨ro, c0, M, uk, g⟩, ⟨SA, i, i2⟩, SB, j, j2⟩ := H
  refine ⟨hf.at a (h0 _ (by omega) (by omega)), ⟨l, b.fr hf ?_ ?_ ?_ ?_⟩, ⟨l2, c.fr hf ?_ ?_ ?_ ?_⟩, ⟨k, A, d.fr hf ?_ ?_⟩, ⟨k2, A2, e.fr hf ?_ ?_⟩, ⟨ro, c0, M, uk, g.mv hf (fun k k1 k2 => h2 k (by omega) (by omega))⟩, ⟨SA, hf.at i ?_, i2⟩, SB, hf.at j ?_, j2⟩
  all_goals first | exact h0 _ (by omega) (by omega) | exact h2 _ (by omega) (by omega)
theorem isCl.mv {h h1 : am_H} {B : Nat → Bk} {s : Int64} {u : Nat} {U : Nat → Nat} {l : Nat} {W : Nat → Nat} {m : List Nat} (H : isCl h B s u U l W) (hf : fr m h h1) (hm : ∀ k, k < 56 → k ∉ m) : isCl h1 B s u U l W :=
  ⟨hf.at H.1 (hm _ (by omega)), H.2.1.mv hf (hm _ (by omega)), H.2.2.1.mv hf (fun k _ k2 => hm k k2), H.2.2.2.1.mv hf (fun k _ k2 => hm k (by omega)) (fun k _ k2 => hm k (by omega)), H.2.2.2.2.mv hf (fun k _ k2 => hm k (by omega))⟩
def updB (B : Nat → Bk) (b : Nat) (l : Bk) : Nat → Bk := fun i => if i = b then l else B i
theorem isK.bank {h h1 : am_H} {B : Nat → Bk} {b : Nat} {l : Bk} (H : isK h B) (_hb : b < 4) (hf : fr [40 + 4 * b, 40 + 4 * b + 1, 40 + 4 * b + 2, 40 + 4 * b + 3] h h1) (hR : isR h1 (40 + 4 * b) l) (hS : bkS l) (hV : bkV l) : isK h1 (updB B b l) := by
  intro c hc
  unfold updB
  by_cases e : c = b
  · subst e
    rw [if_pos rfl]
    exact ⟨hR, hS, hV⟩
  · rw [if_neg e]
    exact ⟨(H c hc).1.fr hf (by simp; omega) (by simp; omega) (by simp; omega) (by simp; omega), (H c hc).2⟩
theorem isCl.bank {h h1 : am_H} {B : Nat → Bk} {s : Int64} {u : Nat} {U : Nat → Nat} {l : Nat} {W : Nat → Nat} {b : Nat} {o : Bk} (H : isCl h B s u U l W) (hb : b < 4) (hf : fr [40 + 4 * b, 40 + 4 * b + 1, 40 + 4 * b + 2, 40 + 4 * b + 3] h h1) (hR : isR h1 (40 + 4 * b) o) (hS : bkS o) (hV : bkV o) : isCl h1 (updB B b o) s u U l W :=
  ⟨hf.at H.1 (by simp; omega), H.2.1.mv hf (by simp; omega), H.2.2.1.bank hb hf hR hS hV, H.2.2.2.1.mv hf (fun k _ _ => by simp; omega) (fun k _ _ => by simp; omega), H.2.2.2.2.mv hf (fun k _ _ => by simp; omega)⟩
theorem bank_cl {b : Nat} (hb : b < 4) : ∀ k, k ∈ [40 + 4 * b, 40 + 4 * b + 1, 40 + 4 * b + 2, 40 + 4 * b + 3] → k ∈ clL := by
  intro k hk
  rw [clL_mem]
  simp at hk
  omega
end
section
/-! The class: what works on one bank -/
theorem rng_t {k n : Nat} (hk : k < n) (hn : n < 2 ^ 31) : rng n (nI k) = true := by
  have a : am_c2 .lt (nI k) 0 = false := decide_eq_false (fun z => Nat.not_lt_zero _ ((nI_ltI (a := k) (b := 0) (by omega) (by decide)).mp z))
  have b : am_c2 .ge (nI k) (nI n) = false := decide_eq_false (fun z => by have := (nI_leI hn (by omega)).mp z; omega)
  simp [rng, a, b]
theorem c2_gl (x y : Int32) : am_c2 .ge x y = !am_c2 .lt x y := by
  show decide (y ≤ x) = !decide (x < y)
  by_cases h : x < y
  · rw [decide_eq_true h, decide_eq_false (Int32.not_le.mpr h)]; rfl
  · rw [decide_eq_false h, decide_eq_true (Int32.not_lt.mp h)]; rfl
def onB {α : Type} (v w : Int32) (e : α) (f : Nat → Nat → α) : α := if (rng 4 v && rng 10000 w) = true then f v.toNatClampNeg w.toNatClampNeg else e
theorem onB_in {α : Type} {b k : Nat} (hb : b < 4) (hk : k < 10000) (e : α) (f : Nat → Nat → α) : onB (nI b) (nI k) e f = f b k := by
  unfold onB
  rw [rng_t hb (by decide), rng_t hk (by decide), nI_clamp (by omega), nI_clamp (by omega)]
  rfl
theorem onB_o1 {α : Type} {v w : Int32} (h : rng 4 v = false) (e : α) (f : Nat → Nat → α) : onB v w e f = e := by
  unfold onB
  rw [h]
  rfl
theorem onB_o2 {α : Type} {v w : Int32} (h : rng 10000 w = false) (e : α) (f : Nat → Nat → α) : onB v w e f = e := by
  unfold onB
  rw [h, Bool.and_false]
  rfl
def ct (l : Bk) (n : Nat) : Nat := if hasAt l (pos l n) n = true then wd l (pos l n) % 1024 / 2 else 0
def fuP (l : Bk) (n : Nat) : Bool := (!hasAt l (pos l n) n && decide (l.length = 64)) || decide (ct l n = 500)
def vr (b c : Nat) : Nat := 2 * (c + 1) + b % 2
theorem ct_le {l : Bk} (hV : bkV l) (n : Nat) : ct l n ≤ 500 := by
  unfold ct
  split
  next h => have := hV _ (hasAt_iff.mp h).1; omega
  next => omega
def ptR (B : Nat → Bk) (v w : Int32) : Int32 := onB v w (-1) (fun b k => if fuP (B b) k = true then -3 else nI (vr b (ct (B b) k)))
def ptB (B : Nat → Bk) (v w g : Int32) : Nat → Bk := onB v w B (fun b k => if fuP (B b) k = true then B else updB B b (stR (B b) (1024 * k + vr b (ct (B b) k), g, false)))
def dpN (l : Bk) (k : Nat) : Bool := !hasAt l (pos l k) k || dd l (pos l k)
def dpR (B : Nat → Bk) (v w : Int32) : Int32 := onB v w (-1) (fun b k => if dpN (B b) k = true then -2 else if ct (B b) k = 500 then -3 else nI (vr b (ct (B b) k)))
def dpB (B : Nat → Bk) (v w : Int32) : Nat → Bk := onB v w B (fun b k => if dpN (B b) k = true then B else if ct (B b) k = 500 then B else updB B b (stR (B b) (1024 * k + vr b (ct (B b) k), gd (B b) (pos (B b) k), true)))
def vsR (B : Nat → Bk) (v w : Int32) : Int32 := onB v w (-1) (fun b k => if hasAt (B b) (pos (B b) k) k = true then (if dd (B b) (pos (B b) k) = true then -nI (wd (B b) (pos (B b) k) % 1024) else nI (wd (B b) (pos (B b) k) % 1024)) else 0)
def grR (B : Nat → Bk) (v w : Int32) : Int32 := onB v w 0 (fun b k => if hasAt (B b) (pos (B b) k) k = true then gd (B b) (pos (B b) k) else 0)
def szR (B : Nat → Bk) (v : Int32) : Int32 := if rng 4 v = true then nI (B v.toNatClampNeg).length else -1
def wdR (B : Nat → Bk) (v w : Int32) : Int32 := if (rng 4 v && rng (B v.toNatClampNeg).length w) = true then nI (wd (B v.toNatClampNeg) w.toNatClampNeg) else -1
def smR (B : Nat → Bk) (v w : Int32) : Int32 := if (rng 4 v && rng 18 w) = true then nI (smp (B v.toNatClampNeg) (1073741824 + w.toNatClampNeg) (B v.toNatClampNeg).length) else -1
def dfR (B : Nat → Bk) (v w : Int32) : Int32 := if twB v w = true then nI ((B v.toNatClampNeg).length + (B w.toNatClampNeg).length) - nI (2 * cntB (shB (B v.toNatClampNeg) (B w.toNatClampNeg)) (B v.toNatClampNeg).length) else -1
def dgR (u l : Nat) (v : Int32) : Int32 := if v = 0 then nI u else if v = 1 then nI l else -1
def fcR (u : Nat) (U : Nat → Nat) (l : Nat) (W : Nat → Nat) (v w : Int32) : Int32 := if v = 0 ∧ rng (u + 1) w = true then nI (U w.toNatClampNeg) else if v = 1 ∧ rng (l + 1) w = true then nI (W w.toNatClampNeg) else -1
theorem c_B_nextVersion (X : am_X) (d : Nat) (h : am_H) {b c : Nat} (hb : b < 4) (hc : c ≤ 500) : ar Pg X d n_B_nextVersion 0 [some (.int (nI b)), some (.int (nI c))] [] h (fun rr h' => rr = some (.int (nI (vr b c))) ∧ h' = h) := by
  refine ar_go M_B_nextVersion 4 _ 4 _ [some (.int (nI b)), some (.int (nI c))] _ [.int (nI c + nI 1), .int (nI 2)] rfl ?_
  refine ar_top (w := .int (nI (c + 1))) (congrArg Value.int (nI_add c 1)) ?_
  refine ar_go M_B_nextVersion 1 _ 5 _ [some (.int (nI b)), some (.int (nI c))] _ [.int (nI 2 * nI (c + 1))] rfl ?_
  refine ar_top (w := .int (nI (2 * (c + 1)))) (congrArg Value.int (pk_mul 2 (c + 1))) ?_
  refine ar_go M_B_nextVersion 2 _ 7 _ [some (.int (nI b)), some (.int (nI c))] _ [.int (nI 2), .int (nI b), .int (nI (2 * (c + 1)))] rfl ?_
  refine ar_irem M_B_nextVersion rfl (by decide) ?_
  refine ar_top (w := .int (nI (b % 2))) (congrArg Value.int (pk_rem (by omega) (by decide) (by decide))) ?_
  refine ar_go M_B_nextVersion 1 _ 9 _ [some (.int (nI b)), some (.int (nI c))] _ [.int (nI (2 * (c + 1)) + nI (b % 2))] rfl ?_
  refine ar_top (w := .int (nI ((2 * (c + 1)) + (b % 2)))) (congrArg Value.int (nI_add (2 * (c + 1)) (b % 2))) ?_
  exact ar_R M_B_nextVersion rfl rfl rfl rfl (⟨rfl, rfl⟩)
theorem c_B_wordOf (X : am_X) (d : Nat) (h : am_H) {k c : Nat} : ar Pg X d n_B_wordOf 0 [some (.int (nI k)), some (.int (nI c))] [] h (fun rr h' => rr = some (.int (nI (1024 * k + c))) ∧ h' = h) := by
  refine ar_go M_B_wordOf 3 _ 5 _ [some (.int (nI k)), some (.int (nI c))] _ [.int (nI 1024 * nI k)] rfl ?_
  refine ar_top (w := .int (nI (1024 * k))) (congrArg Value.int (pk_mul 1024 k)) ?_
  refine ar_go M_B_wordOf 2 _ 7 _ [some (.int (nI k)), some (.int (nI c))] _ [.int (nI (1024 * k) + nI c)] rfl ?_
  refine ar_top (w := .int (nI ((1024 * k) + c))) (congrArg Value.int (nI_add (1024 * k) c)) ?_
  exact ar_R M_B_wordOf rfl rfl rfl rfl (⟨rfl, rfl⟩)
theorem c_B_put (X : am_X) (d : Nat) (h : am_H) {B : Nat → Bk} {s : Int64} {u : Nat} {U : Nat → Nat} {l : Nat} {W : Nat → Nat} (hC : isCl h B s u U l W) (v w gr : Int32) : ar Pg X (d + 1 + 1) n_B_put 0 [some (.ref 0), some (.int v), some (.int w), some (.int gr), none, none, none, none, none] [] h (fun rr h' => rr = some (.int (ptR B v w)) ∧ isCl h' (ptB B v w gr) s u U l W ∧ fr clL h h') := by
  have hC0 := hC
  obtain ⟨h0, ⟨bf, hb1, hbf⟩, hK, hX, hPr⟩ := hC
  have h0 : h[0]? = some (.inr (0, [.ref 1, .ref 2, .ref 6, .ref 10, .long s])) := h0
  refine ar_go M_B_put 1 _ 1 _ [some (.ref 0), some (.int v), some (.int w), some (.int gr), none, none, none, none, none] _ [.int v] rfl ?_
  refine ar_CS M_B_put rfl rfl (Nat.le_of_ble_eq_true rfl) rfl rfl (Nat.le_of_ble_eq_true rfl) M_B_isBank (Nat.le_of_ble_eq_true rfl) (c_B_isBank X (d + 1) _ v) (fun r1 h1 hq => ?_)
  obtain ⟨rfl, rfl⟩ := hq
  refine ⟨rfl, ?_⟩
  show ar Pg _ _ _ 4 [some (.ref 0), some (.int v), some (.int w), some (.int gr), none, none, none, none, none] [.int (bi (rng 4 v))] _ _
  refine ar_if M_B_put rfl rfl (fun hc1 => ?_) (fun hc1 => ?_)
  · have hc1 := bi_eq_t hc1
    refine ar_go M_B_put 1 _ 15 _ [some (.ref 0), some (.int v), some (.int w), some (.int gr), none, none, none, none, none] _ [.int (-1)] rfl ?_
    exact ar_R M_B_put rfl rfl rfl rfl (⟨by rw [show ptR B v w = _ from onB_o1 hc1 _ _] <;> rfl, by rw [show ptB B v w gr = B from onB_o1 hc1 _ _]; exact hC0, fr.rf _ _⟩)
  · have hc1 := bi_eq_f hc1
    refine ar_go M_B_put 1 _ 8 _ [some (.ref 0), some (.int v), some (.int w), some (.int gr), none, none, none, none, none] _ [.int w] rfl ?_
    refine ar_CS M_B_put rfl rfl (Nat.le_of_ble_eq_true rfl) rfl rfl (Nat.le_of_ble_eq_true rfl) M_B_isNumber (Nat.le_of_ble_eq_true rfl) (c_B_isNumber X (d + 1) _ w) (fun r1 h1 hq => ?_)
    obtain ⟨rfl, rfl⟩ := hq
    refine ⟨rfl, ?_⟩
    show ar Pg _ _ _ 11 [some (.ref 0), some (.int v), some (.int w), some (.int gr), none, none, none, none, none] [.int (bi (rng 10000 w))] _ _
    refine ar_if M_B_put rfl rfl (fun hc2 => ?_) (fun hc2 => ?_)
    · have hc2 := bi_ne_t hc2
      obtain ⟨b, hb, rfl⟩ := rng_ex (by decide) hc1
      obtain ⟨k, hk, rfl⟩ := rng_ex (by decide) hc2
      obtain ⟨hR, hS, hV⟩ := hK b hb
      have hW := hV.W
      have hR0 := hR
      obtain ⟨hlen, hr, f, g, m, hw, hg, hm, hfa⟩ := hR
      have hpl := pos_pl (B b) k hS
      obtain ⟨p, hpe⟩ : ∃ p, p = pos (B b) k := ⟨_, rfl⟩
      rw [← hpe] at hpl
      have hpl1 := hpl.1
      refine ar_go M_B_put 1 _ 17 _ [some (.ref 0), some (.int (nI b)), some (.int (nI k)), some (.int gr), none, none, none, none, none] _ [.ref 0] rfl ?_
      refine ar_get M_B_put rfl rfl h0 rfl ?_
      refine ar_go M_B_put 1 _ 21 _ [some (.ref 0), some (.int (nI b)), some (.int (nI k)), some (.int gr), none, none, none, none, none] _ [.int (nI b), .ref 1] rfl ?_
      refine ar_aald M_B_put rfl hb1 (Or.inr rfl) (vp_in_nI (by omega) (by decide)) (by rw [nI_clamp (n := b) (by omega)]; exact hbf b (by omega)) ?_
      refine ar_go M_B_put 3 _ 27 _ [some (.ref 0), some (.int (nI b)), some (.int (nI k)), some (.int gr), some (.ref (40 + 4 * b)), none, none, none, none] _ [.int (nI k), .ref (40 + 4 * b)] rfl ?_
      refine ar_CV M_B_put rfl rfl (Or.inl rfl) rfl rfl (Nat.le_of_ble_eq_true rfl) hr M_R_placeOf (Nat.le_of_ble_eq_true rfl) (c_R_pos X (d + 1) _ hR0 (by omega) hS hW (by omega)) (fun r1 h1 hq => ?_)
      obtain ⟨rfl, rfl⟩ := hq
      refine ⟨rfl, ?_⟩
      rw [← hpe]
      show ar Pg _ _ _ 30 [some (.ref 0), some (.int (nI b)), some (.int (nI k)), some (.int gr), some (.ref (40 + 4 * b)), none, none, none, none] [.int (nI p)] _ _
      refine ar_go M_B_put 4 _ 37 _ [some (.ref 0), some (.int (nI b)), some (.int (nI k)), some (.int gr), some (.ref (40 + 4 * b)), some (.int (nI p)), none, none, none] _ [.int (nI k), .int (nI p), .ref (40 + 4 * b)] rfl ?_
      refine ar_CV M_B_put rfl rfl (Or.inl rfl) rfl rfl (Nat.le_of_ble_eq_true rfl) hr M_R_holdsAt (Nat.le_of_ble_eq_true rfl) (c_R_holdsAt X (d + 1) _ hR0 (by omega) hW (by omega) (by omega)) (fun r1 h1 hq => ?_)
      obtain ⟨rfl, rfl⟩ := hq
      refine ⟨rfl, ?_⟩
      show ar Pg _ _ _ 40 [some (.ref 0), some (.int (nI b)), some (.int (nI k)), some (.int gr), some (.ref (40 + 4 * b)), some (.int (nI p)), none, none, none] [.int (bi (hasAt (B b) p k))] _ _
      refine ar_if M_B_put rfl rfl (fun hc => ?_) (fun hc => ?_)
      · have hc := bi_ne_t hc
        have hch := hc
        have hh := hasAt_iff.mp hc
        have hwp := hW p hh.1
        have hvp := hV p hh.1
        refine ar_go M_B_put 3 _ 52 _ [some (.ref 0), some (.int (nI b)), some (.int (nI k)), some (.int gr), some (.ref (40 + 4 * b)), some (.int (nI p)), some (.int (nI 0)), none, none] _ [.int (nI 0)] rfl ?_
        refine ar_if M_B_put rfl rfl (fun _ => ?_) (fun z => absurd z (by decide))
        refine ar_go M_B_put 2 _ 63 _ [some (.ref 0), some (.int (nI b)), some (.int (nI k)), some (.int gr), some (.ref (40 + 4 * b)), some (.int (nI p)), some (.int (nI 0)), none, none] _ [.int (nI p), .ref (40 + 4 * b)] rfl ?_
        refine ar_CV M_B_put rfl rfl (Or.inl rfl) rfl rfl (Nat.le_of_ble_eq_true rfl) hr M_R_versionAt (Nat.le_of_ble_eq_true rfl) (c_R_versionAt X (d + 1) _ hR0 (by omega) hW hh.1) (fun r1 h1 hq => ?_)
        obtain ⟨rfl, rfl⟩ := hq
        refine ⟨rfl, ?_⟩
        show ar Pg _ _ _ 66 [some (.ref 0), some (.int (nI b)), some (.int (nI k)), some (.int gr), some (.ref (40 + 4 * b)), some (.int (nI p)), some (.int (nI 0)), none, none] [.int (nI (wd (B b) p % 1024))] _ _
        refine ar_go M_B_put 1 _ 67 _ [some (.ref 0), some (.int (nI b)), some (.int (nI k)), some (.int gr), some (.ref (40 + 4 * b)), some (.int (nI p)), some (.int (nI 0)), none, none] _ [.int (nI 2), .int (nI (wd (B b) p % 1024))] rfl ?_
        refine ar_idiv M_B_put rfl (by decide) ?_
        refine ar_top (w := .int (nI ((wd (B b) p % 1024) / 2))) (congrArg Value.int (pk_div (by omega) (by decide) (by decide))) ?_
        refine ar_go M_B_put 2 _ 72 _ [some (.ref 0), some (.int (nI b)), some (.int (nI k)), some (.int gr), some (.ref (40 + 4 * b)), some (.int (nI p)), some (.int (nI 0)), some (.int (nI ((wd (B b) p % 1024) / 2))), none] _ [.int (nI 0)] rfl ?_
        refine ar_if M_B_put rfl rfl (fun _ => ?_) (fun z => absurd z (by decide))
        refine ar_go M_B_put 2 _ 90 _ [some (.ref 0), some (.int (nI b)), some (.int (nI k)), some (.int gr), some (.ref (40 + 4 * b)), some (.int (nI p)), some (.int (nI 0)), some (.int (nI ((wd (B b) p % 1024) / 2))), none] _ [.int (nI 500), .int (nI ((wd (B b) p % 1024) / 2))] rfl ?_
        refine ar_icmp M_B_put rfl rfl (fun hc3 => ?_) (fun hc3 => ?_)
        · have hc3 := c2_ne_t (a := ((wd (B b) p % 1024) / 2)) (b := 500) (by omega) (by omega) hc3
          have hfu : fuP (B b) k = false := by unfold fuP ct; rw [← hpe]; simp [hch]; omega
          have hcte : ct (B b) k = wd (B b) p % 1024 / 2 := by unfold ct; rw [← hpe]; simp [hch]
          have hctl := ct_le hV k
          rw [hcte] at hctl
          refine ar_go M_B_put 2 _ 99 _ [some (.ref 0), some (.int (nI b)), some (.int (nI k)), some (.int gr), some (.ref (40 + 4 * b)), some (.int (nI p)), some (.int (nI 0)), some (.int (nI ((wd (B b) p % 1024) / 2))), none] _ [.int (nI ((wd (B b) p % 1024) / 2)), .int (nI b)] rfl ?_
          refine ar_CS M_B_put rfl rfl (Nat.le_of_ble_eq_true rfl) rfl rfl (Nat.le_of_ble_eq_true rfl) M_B_nextVersion (Nat.le_of_ble_eq_true rfl) (c_B_nextVersion X (d + 1) _ (b := b) (c := wd (B b) p % 1024 / 2) hb (by omega)) (fun r1 h1 hq => ?_)
          obtain ⟨rfl, rfl⟩ := hq
          refine ⟨rfl, ?_⟩
          show ar Pg _ _ _ 102 [some (.ref 0), some (.int (nI b)), some (.int (nI k)), some (.int gr), some (.ref (40 + 4 * b)), some (.int (nI p)), some (.int (nI 0)), some (.int (nI ((wd (B b) p % 1024) / 2))), none] [.int (nI (vr b (wd (B b) p % 1024 / 2)))] _ _
          have hvr : vr b (wd (B b) p % 1024 / 2) < 1002 ∧ 2 ≤ vr b (wd (B b) p % 1024 / 2) := by unfold vr; omega
          refine ar_go M_B_put 4 _ 109 _ [some (.ref 0), some (.int (nI b)), some (.int (nI k)), some (.int gr), some (.ref (40 + 4 * b)), some (.int (nI p)), some (.int (nI 0)), some (.int (nI ((wd (B b) p % 1024) / 2))), some (.int (nI (vr b (wd (B b) p % 1024 / 2))))] _ [.int (nI (vr b (wd (B b) p % 1024 / 2))), .int (nI k), .ref (40 + 4 * b)] rfl ?_
          refine ar_CS M_B_put rfl rfl (Nat.le_of_ble_eq_true rfl) rfl rfl (Nat.le_of_ble_eq_true rfl) M_B_wordOf (Nat.le_of_ble_eq_true rfl) (c_B_wordOf X (d + 1) _ (k := k) (c := vr b (wd (B b) p % 1024 / 2))) (fun r1 h1 hq => ?_)
          obtain ⟨rfl, rfl⟩ := hq
          refine ⟨rfl, ?_⟩
          show ar Pg _ _ _ 112 [some (.ref 0), some (.int (nI b)), some (.int (nI k)), some (.int gr), some (.ref (40 + 4 * b)), some (.int (nI p)), some (.int (nI 0)), some (.int (nI ((wd (B b) p % 1024) / 2))), some (.int (nI (vr b (wd (B b) p % 1024 / 2))))] [.int (nI (1024 * k + vr b (wd (B b) p % 1024 / 2))), .ref (40 + 4 * b)] _ _
          refine ar_go M_B_put 2 _ 114 _ [some (.ref 0), some (.int (nI b)), some (.int (nI k)), some (.int gr), some (.ref (40 + 4 * b)), some (.int (nI p)), some (.int (nI 0)), some (.int (nI ((wd (B b) p % 1024) / 2))), some (.int (nI (vr b (wd (B b) p % 1024 / 2))))] _ [.int (nI 0), .int gr, .int (nI (1024 * k + vr b (wd (B b) p % 1024 / 2))), .ref (40 + 4 * b)] rfl ?_
          have hst := c_R_store X d _ (gr := gr) (bb := false) (W := 1024 * k + vr b (wd (B b) p % 1024 / 2)) hR0 (by omega) hS hW (by omega)
          refine ar_CV M_B_put rfl rfl (Or.inl rfl) rfl rfl (Nat.le_of_ble_eq_true rfl) hr M_R_store (Nat.le_of_ble_eq_true rfl) hst (fun r1 h2 hq => ?_)
          obtain ⟨rfl, hf, hR1⟩ := hq
          refine ⟨hf.1, ?_⟩
          show ar Pg _ _ _ 117 [some (.ref 0), some (.int (nI b)), some (.int (nI k)), some (.int gr), some (.ref (40 + 4 * b)), some (.int (nI p)), some (.int (nI 0)), some (.int (nI ((wd (B b) p % 1024) / 2))), some (.int (nI (vr b (wd (B b) p % 1024 / 2))))] [] _ _
          refine ar_go M_B_put 1 _ 119 _ [some (.ref 0), some (.int (nI b)), some (.int (nI k)), some (.int gr), some (.ref (40 + 4 * b)), some (.int (nI p)), some (.int (nI 0)), some (.int (nI ((wd (B b) p % 1024) / 2))), some (.int (nI (vr b (wd (B b) p % 1024 / 2))))] _ [.int (nI (vr b (wd (B b) p % 1024 / 2)))] rfl ?_
          have hvv := stR_V hS hV (e := (1024 * k + vr b (wd (B b) p % 1024 / 2), gr, false)) ⟨by simp only; omega, by simp only; omega, by simp only; omega⟩
          exact ar_R M_B_put rfl rfl rfl rfl ⟨by rw [show ptR B (nI b) (nI k) = _ from onB_in hb hk _ _, if_neg (by rw [hfu]; decide), hcte], by rw [show ptB B (nI b) (nI k) gr = _ from onB_in hb hk _ _, if_neg (by rw [hfu]; decide), hcte]; exact hC0.bank hb hf hR1 (stR_S hS _) hvv, hf.mono (bank_cl hb)⟩
        · have hc3 := c2_ne_f (a := ((wd (B b) p % 1024) / 2)) (b := 500) (by omega) (by omega) hc3
          have hfu : fuP (B b) k = true := by unfold fuP ct; rw [← hpe]; simp [hch]; omega
          refine ar_go M_B_put 1 _ 95 _ [some (.ref 0), some (.int (nI b)), some (.int (nI k)), some (.int gr), some (.ref (40 + 4 * b)), some (.int (nI p)), some (.int (nI 0)), some (.int (nI ((wd (B b) p % 1024) / 2))), none] _ [.int (-3)] rfl ?_
          exact ar_R M_B_put rfl rfl rfl rfl (⟨by rw [show ptR B (nI b) (nI k) = _ from onB_in hb hk _ _, if_pos hfu] <;> rfl, by rw [show ptB B (nI b) (nI k) gr = _ from onB_in hb hk _ _, if_pos hfu]; exact hC0, fr.rf _ _⟩)
      · have hc := bi_ne_f hc
        have hch := hc
        refine ar_go M_B_put 4 _ 52 _ [some (.ref 0), some (.int (nI b)), some (.int (nI k)), some (.int gr), some (.ref (40 + 4 * b)), some (.int (nI p)), some (.int (nI 1)), none, none] _ [.int (nI 1)] rfl ?_
        refine ar_if M_B_put rfl rfl (fun z => absurd z (by decide)) (fun _ => ?_)
        refine ar_go M_B_put 4 _ 72 _ [some (.ref 0), some (.int (nI b)), some (.int (nI k)), some (.int gr), some (.ref (40 + 4 * b)), some (.int (nI p)), some (.int (nI 1)), some (.int (nI 0)), none] _ [.int (nI 1)] rfl ?_
        refine ar_if M_B_put rfl rfl (fun z => absurd z (by decide)) (fun _ => ?_)
        refine ar_go M_B_put 1 _ 77 _ [some (.ref 0), some (.int (nI b)), some (.int (nI k)), some (.int gr), some (.ref (40 + 4 * b)), some (.int (nI p)), some (.int (nI 1)), some (.int (nI 0)), none] _ [.ref (40 + 4 * b)] rfl ?_
        refine ar_get M_B_put rfl rfl hr rfl ?_
        refine ar_go M_B_put 1 _ 82 _ [some (.ref 0), some (.int (nI b)), some (.int (nI k)), some (.int gr), some (.ref (40 + 4 * b)), some (.int (nI p)), some (.int (nI 1)), some (.int (nI 0)), none] _ [.int (nI 64), .int (nI ((B b).length))] rfl ?_
        refine ar_icmp M_B_put rfl rfl (fun hc3 => ?_) (fun hc3 => ?_)
        · have hc3 := c2_eq_t (a := ((B b).length)) (b := 64) (by omega) (by omega) hc3
          have hfu : fuP (B b) k = true := by unfold fuP ct; rw [← hpe]; simp [hch, hc3]
          refine ar_go M_B_put 1 _ 95 _ [some (.ref 0), some (.int (nI b)), some (.int (nI k)), some (.int gr), some (.ref (40 + 4 * b)), some (.int (nI p)), some (.int (nI 1)), some (.int (nI 0)), none] _ [.int (-3)] rfl ?_
          exact ar_R M_B_put rfl rfl rfl rfl (⟨by rw [show ptR B (nI b) (nI k) = _ from onB_in hb hk _ _, if_pos hfu] <;> rfl, by rw [show ptB B (nI b) (nI k) gr = _ from onB_in hb hk _ _, if_pos hfu]; exact hC0, fr.rf _ _⟩)
        · have hc3 := c2_eq_f (a := ((B b).length)) (b := 64) (by omega) (by omega) hc3
          have hfu : fuP (B b) k = false := by unfold fuP ct; rw [← hpe]; simp [hch, hc3]
          refine ar_go M_B_put 2 _ 90 _ [some (.ref 0), some (.int (nI b)), some (.int (nI k)), some (.int gr), some (.ref (40 + 4 * b)), some (.int (nI p)), some (.int (nI 1)), some (.int (nI 0)), none] _ [.int (nI 500), .int (nI 0)] rfl ?_
          refine ar_icmp M_B_put rfl rfl (fun _ => ?_) (fun z => absurd z (by decide))
          have hcte : ct (B b) k = 0 := by unfold ct; rw [← hpe]; simp [hch]
          have hctl := ct_le hV k
          rw [hcte] at hctl
          refine ar_go M_B_put 2 _ 99 _ [some (.ref 0), some (.int (nI b)), some (.int (nI k)), some (.int gr), some (.ref (40 + 4 * b)), some (.int (nI p)), some (.int (nI 1)), some (.int (nI 0)), none] _ [.int (nI 0), .int (nI b)] rfl ?_
          refine ar_CS M_B_put rfl rfl (Nat.le_of_ble_eq_true rfl) rfl rfl (Nat.le_of_ble_eq_true rfl) M_B_nextVersion (Nat.le_of_ble_eq_true rfl) (c_B_nextVersion X (d + 1) _ (b := b) (c := 0) hb (by omega)) (fun r1 h1 hq => ?_)
          obtain ⟨rfl, rfl⟩ := hq
          refine ⟨rfl, ?_⟩
          show ar Pg _ _ _ 102 [some (.ref 0), some (.int (nI b)), some (.int (nI k)), some (.int gr), some (.ref (40 + 4 * b)), some (.int (nI p)), some (.int (nI 1)), some (.int (nI 0)), none] [.int (nI (vr b 0))] _ _
          have hvr : vr b 0 < 1002 ∧ 2 ≤ vr b 0 := by unfold vr; omega
          refine ar_go M_B_put 4 _ 109 _ [some (.ref 0), some (.int (nI b)), some (.int (nI k)), some (.int gr), some (.ref (40 + 4 * b)), some (.int (nI p)), some (.int (nI 1)), some (.int (nI 0)), some (.int (nI (vr b 0)))] _ [.int (nI (vr b 0)), .int (nI k), .ref (40 + 4 * b)] rfl ?_
          refine ar_CS M_B_put rfl rfl (Nat.le_of_ble_eq_true rfl) rfl rfl (Nat.le_of_ble_eq_true rfl) M_B_wordOf (Nat.le_of_ble_eq_true rfl) (c_B_wordOf X (d + 1) _ (k := k) (c := vr b 0)) (fun r1 h1 hq => ?_)
          obtain ⟨rfl, rfl⟩ := hq
          refine ⟨rfl, ?_⟩
          show ar Pg _ _ _ 112 [some (.ref 0), some (.int (nI b)), some (.int (nI k)), some (.int gr), some (.ref (40 + 4 * b)), some (.int (nI p)), some (.int (nI 1)), some (.int (nI 0)), some (.int (nI (vr b 0)))] [.int (nI (1024 * k + vr b 0)), .ref (40 + 4 * b)] _ _
          refine ar_go M_B_put 2 _ 114 _ [some (.ref 0), some (.int (nI b)), some (.int (nI k)), some (.int gr), some (.ref (40 + 4 * b)), some (.int (nI p)), some (.int (nI 1)), some (.int (nI 0)), some (.int (nI (vr b 0)))] _ [.int (nI 0), .int gr, .int (nI (1024 * k + vr b 0)), .ref (40 + 4 * b)] rfl ?_
          have hst := c_R_store X d _ (gr := gr) (bb := false) (W := 1024 * k + vr b 0) hR0 (by omega) hS hW (by omega)
          refine ar_CV M_B_put rfl rfl (Or.inl rfl) rfl rfl (Nat.le_of_ble_eq_true rfl) hr M_R_store (Nat.le_of_ble_eq_true rfl) hst (fun r1 h2 hq => ?_)
          obtain ⟨rfl, hf, hR1⟩ := hq
          refine ⟨hf.1, ?_⟩
          show ar Pg _ _ _ 117 [some (.ref 0), some (.int (nI b)), some (.int (nI k)), some (.int gr), some (.ref (40 + 4 * b)), some (.int (nI p)), some (.int (nI 1)), some (.int (nI 0)), some (.int (nI (vr b 0)))] [] _ _
          refine ar_go M_B_put 1 _ 119 _ [some (.ref 0), some (.int (nI b)), some (.int (nI k)), some (.int gr), some (.ref (40 + 4 * b)), some (.int (nI p)), some (.int (nI 1)), some (.int (nI 0)), some (.int (nI (vr b 0)))] _ [.int (nI (vr b 0))] rfl ?_
          have hvv := stR_V hS hV (e := (1024 * k + vr b 0, gr, false)) ⟨by simp only; omega, by simp only; omega, by simp only; omega⟩
          exact ar_R M_B_put rfl rfl rfl rfl ⟨by rw [show ptR B (nI b) (nI k) = _ from onB_in hb hk _ _, if_neg (by rw [hfu]; decide), hcte], by rw [show ptB B (nI b) (nI k) gr = _ from onB_in hb hk _ _, if_neg (by rw [hfu]; decide), hcte]; exact hC0.bank hb hf hR1 (stR_S hS _) hvv, hf.mono (bank_cl hb)⟩
    · have hc2 := bi_ne_f hc2
      refine ar_go M_B_put 1 _ 15 _ [some (.ref 0), some (.int v), some (.int w), some (.int gr), none, none, none, none, none] _ [.int (-1)] rfl ?_
      exact ar_R M_B_put rfl rfl rfl rfl (⟨by rw [show ptR B v w = _ from onB_o2 hc2 _ _] <;> rfl, by rw [show ptB B v w gr = B from onB_o2 hc2 _ _]; exact hC0, fr.rf _ _⟩)
theorem c_B_drop (X : am_X) (d : Nat) (h : am_H) {B : Nat → Bk} {s : Int64} {u : Nat} {U : Nat → Nat} {l : Nat} {W : Nat → Nat} (hC : isCl h B s u U l W) (v w : Int32) : ar Pg X (d + 1 + 1) n_B_drop 0 [some (.ref 0), some (.int v), some (.int w), none, none, none, none] [] h (fun rr h' => rr = some (.int (dpR B v w)) ∧ isCl h' (dpB B v w) s u U l W ∧ fr clL h h') := by
  have hC0 := hC
  obtain ⟨h0, ⟨bf, hb1, hbf⟩, hK, hX, hPr⟩ := hC
  have h0 : h[0]? = some (.inr (0, [.ref 1, .ref 2, .ref 6, .ref 10, .long s])) := h0
  refine ar_go M_B_drop 1 _ 1 _ [some (.ref 0), some (.int v), some (.int w), none, none, none, none] _ [.int v] rfl ?_
  refine ar_CS M_B_drop rfl rfl (Nat.le_of_ble_eq_true rfl) rfl rfl (Nat.le_of_ble_eq_true rfl) M_B_isBank (Nat.le_of_ble_eq_true rfl) (c_B_isBank X (d + 1) _ v) (fun r1 h1 hq => ?_)
  obtain ⟨rfl, rfl⟩ := hq
  refine ⟨rfl, ?_⟩
  show ar Pg _ _ _ 4 [some (.ref 0), some (.int v), some (.int w), none, none, none, none] [.int (bi (rng 4 v))] _ _
  refine ar_if M_B_drop rfl rfl (fun hc1 => ?_) (fun hc1 => ?_)
  · have hc1 := bi_eq_t hc1
    refine ar_go M_B_drop 1 _ 15 _ [some (.ref 0), some (.int v), some (.int w), none, none, none, none] _ [.int (-1)] rfl ?_
    exact ar_R M_B_drop rfl rfl rfl rfl (⟨by rw [show dpR B v w = _ from onB_o1 hc1 _ _] <;> rfl, by rw [show dpB B v w = B from onB_o1 hc1 _ _]; exact hC0, fr.rf _ _⟩)
  · have hc1 := bi_eq_f hc1
    refine ar_go M_B_drop 1 _ 8 _ [some (.ref 0), some (.int v), some (.int w), none, none, none, none] _ [.int w] rfl ?_
    refine ar_CS M_B_drop rfl rfl (Nat.le_of_ble_eq_true rfl) rfl rfl (Nat.le_of_ble_eq_true rfl) M_B_isNumber (Nat.le_of_ble_eq_true rfl) (c_B_isNumber X (d + 1) _ w) (fun r1 h1 hq => ?_)
    obtain ⟨rfl, rfl⟩ := hq
    refine ⟨rfl, ?_⟩
    show ar Pg _ _ _ 11 [some (.ref 0), some (.int v), some (.int w), none, none, none, none] [.int (bi (rng 10000 w))] _ _
    refine ar_if M_B_drop rfl rfl (fun hc2 => ?_) (fun hc2 => ?_)
    · have hc2 := bi_ne_t hc2
      obtain ⟨b, hb, rfl⟩ := rng_ex (by decide) hc1
      obtain ⟨k, hk, rfl⟩ := rng_ex (by decide) hc2
      obtain ⟨hR, hS, hV⟩ := hK b hb
      have hW := hV.W
      have hR0 := hR
      obtain ⟨hlen, hr, f, g, m, hw, hg, hm, hfa⟩ := hR
      have hpl := pos_pl (B b) k hS
      obtain ⟨p, hpe⟩ : ∃ p, p = pos (B b) k := ⟨_, rfl⟩
      rw [← hpe] at hpl
      have hpl1 := hpl.1
      refine ar_go M_B_drop 1 _ 17 _ [some (.ref 0), some (.int (nI b)), some (.int (nI k)), none, none, none, none] _ [.ref 0] rfl ?_
      refine ar_get M_B_drop rfl rfl h0 rfl ?_
      refine ar_go M_B_drop 1 _ 21 _ [some (.ref 0), some (.int (nI b)), some (.int (nI k)), none, none, none, none] _ [.int (nI b), .ref 1] rfl ?_
      refine ar_aald M_B_drop rfl hb1 (Or.inr rfl) (vp_in_nI (by omega) (by decide)) (by rw [nI_clamp (n := b) (by omega)]; exact hbf b (by omega)) ?_
      refine ar_go M_B_drop 3 _ 25 _ [some (.ref 0), some (.int (nI b)), some (.int (nI k)), some (.ref (40 + 4 * b)), none, none, none] _ [.int (nI k), .ref (40 + 4 * b)] rfl ?_
      refine ar_CV M_B_drop rfl rfl (Or.inl rfl) rfl rfl (Nat.le_of_ble_eq_true rfl) hr M_R_placeOf (Nat.le_of_ble_eq_true rfl) (c_R_pos X (d + 1) _ hR0 (by omega) hS hW (by omega)) (fun r1 h1 hq => ?_)
      obtain ⟨rfl, rfl⟩ := hq
      refine ⟨rfl, ?_⟩
      rw [← hpe]
      show ar Pg _ _ _ 28 [some (.ref 0), some (.int (nI b)), some (.int (nI k)), some (.ref (40 + 4 * b)), none, none, none] [.int (nI p)] _ _
      refine ar_go M_B_drop 4 _ 34 _ [some (.ref 0), some (.int (nI b)), some (.int (nI k)), some (.ref (40 + 4 * b)), some (.int (nI p)), none, none] _ [.int (nI k), .int (nI p), .ref (40 + 4 * b)] rfl ?_
      refine ar_CV M_B_drop rfl rfl (Or.inl rfl) rfl rfl (Nat.le_of_ble_eq_true rfl) hr M_R_holdsAt (Nat.le_of_ble_eq_true rfl) (c_R_holdsAt X (d + 1) _ hR0 (by omega) hW (by omega) (by omega)) (fun r1 h1 hq => ?_)
      obtain ⟨rfl, rfl⟩ := hq
      refine ⟨rfl, ?_⟩
      show ar Pg _ _ _ 37 [some (.ref 0), some (.int (nI b)), some (.int (nI k)), some (.ref (40 + 4 * b)), some (.int (nI p)), none, none] [.int (bi (hasAt (B b) p k))] _ _
      refine ar_if M_B_drop rfl rfl (fun hc => ?_) (fun hc => ?_)
      · have hc := bi_eq_t hc
        have hdn : dpN (B b) k = true := by unfold dpN; rw [← hpe]; simp [hc]
        refine ar_go M_B_drop 1 _ 52 _ [some (.ref 0), some (.int (nI b)), some (.int (nI k)), some (.ref (40 + 4 * b)), some (.int (nI p)), none, none] _ [.int (-2)] rfl ?_
        exact ar_R M_B_drop rfl rfl rfl rfl (⟨by rw [show dpR B (nI b) (nI k) = _ from onB_in hb hk _ _, if_pos hdn] <;> rfl, by rw [show dpB B (nI b) (nI k) = _ from onB_in hb hk _ _, if_pos hdn]; exact hC0, fr.rf _ _⟩)
      · have hc := bi_eq_f hc
        have hch := hc
        have hh := hasAt_iff.mp hc
        have hwp := hW p hh.1
        have hvp := hV p hh.1
        refine ar_go M_B_drop 1 _ 41 _ [some (.ref 0), some (.int (nI b)), some (.int (nI k)), some (.ref (40 + 4 * b)), some (.int (nI p)), none, none] _ [.ref (40 + 4 * b)] rfl ?_
        refine ar_get M_B_drop rfl rfl hr rfl ?_
        refine ar_go M_B_drop 1 _ 46 _ [some (.ref 0), some (.int (nI b)), some (.int (nI k)), some (.ref (40 + 4 * b)), some (.int (nI p)), none, none] _ [.int (nI p), .ref ((40 + 4 * b) + 3)] rfl ?_
        refine ar_zald M_B_drop rfl hm (vp_in_nI (by omega) (by decide)) ?_
        rw [nI_clamp (n := p) (by omega)]
        refine ar_top (w := .int (bi (dd (B b) p))) (congrArg Value.int ((hfa p (by omega)).2.2)) ?_
        refine ar_if M_B_drop rfl rfl (fun hc4 => ?_) (fun hc4 => ?_)
        · have hc4 := bi_eq_t hc4
          have hdn : dpN (B b) k = false := by unfold dpN; rw [← hpe]; simp [hch, hc4]
          refine ar_go M_B_drop 2 _ 56 _ [some (.ref 0), some (.int (nI b)), some (.int (nI k)), some (.ref (40 + 4 * b)), some (.int (nI p)), none, none] _ [.int (nI p), .ref (40 + 4 * b)] rfl ?_
          refine ar_CV M_B_drop rfl rfl (Or.inl rfl) rfl rfl (Nat.le_of_ble_eq_true rfl) hr M_R_versionAt (Nat.le_of_ble_eq_true rfl) (c_R_versionAt X (d + 1) _ hR0 (by omega) hW hh.1) (fun r1 h1 hq => ?_)
          obtain ⟨rfl, rfl⟩ := hq
          refine ⟨rfl, ?_⟩
          show ar Pg _ _ _ 59 [some (.ref 0), some (.int (nI b)), some (.int (nI k)), some (.ref (40 + 4 * b)), some (.int (nI p)), none, none] [.int (nI (wd (B b) p % 1024))] _ _
          refine ar_go M_B_drop 1 _ 60 _ [some (.ref 0), some (.int (nI b)), some (.int (nI k)), some (.ref (40 + 4 * b)), some (.int (nI p)), none, none] _ [.int (nI 2), .int (nI (wd (B b) p % 1024))] rfl ?_
          refine ar_idiv M_B_drop rfl (by decide) ?_
          refine ar_top (w := .int (nI ((wd (B b) p % 1024) / 2))) (congrArg Value.int (pk_div (by omega) (by decide) (by decide))) ?_
          refine ar_go M_B_drop 3 _ 68 _ [some (.ref 0), some (.int (nI b)), some (.int (nI k)), some (.ref (40 + 4 * b)), some (.int (nI p)), some (.int (nI ((wd (B b) p % 1024) / 2))), none] _ [.int (nI 500), .int (nI ((wd (B b) p % 1024) / 2))] rfl ?_
          refine ar_icmp M_B_drop rfl rfl (fun hc3 => ?_) (fun hc3 => ?_)
          · have hc3 := c2_ne_t (a := ((wd (B b) p % 1024) / 2)) (b := 500) (by omega) (by omega) hc3
            have hcte : ct (B b) k = wd (B b) p % 1024 / 2 := by unfold ct; rw [← hpe]; simp [hch]
            have hctl := ct_le hV k
            rw [hcte] at hctl
            refine ar_go M_B_drop 2 _ 77 _ [some (.ref 0), some (.int (nI b)), some (.int (nI k)), some (.ref (40 + 4 * b)), some (.int (nI p)), some (.int (nI ((wd (B b) p % 1024) / 2))), none] _ [.int (nI ((wd (B b) p % 1024) / 2)), .int (nI b)] rfl ?_
            refine ar_CS M_B_drop rfl rfl (Nat.le_of_ble_eq_true rfl) rfl rfl (Nat.le_of_ble_eq_true rfl) M_B_nextVersion (Nat.le_of_ble_eq_true rfl) (c_B_nextVersion X (d + 1) _ (b := b) (c := wd (B b) p % 1024 / 2) hb (by omega)) (fun r1 h1 hq => ?_)
            obtain ⟨rfl, rfl⟩ := hq
            refine ⟨rfl, ?_⟩
            show ar Pg _ _ _ 80 [some (.ref 0), some (.int (nI b)), some (.int (nI k)), some (.ref (40 + 4 * b)), some (.int (nI p)), some (.int (nI ((wd (B b) p % 1024) / 2))), none] [.int (nI (vr b (wd (B b) p % 1024 / 2)))] _ _
            have hvr : vr b (wd (B b) p % 1024 / 2) < 1002 ∧ 2 ≤ vr b (wd (B b) p % 1024 / 2) := by unfold vr; omega
            refine ar_go M_B_drop 4 _ 86 _ [some (.ref 0), some (.int (nI b)), some (.int (nI k)), some (.ref (40 + 4 * b)), some (.int (nI p)), some (.int (nI ((wd (B b) p % 1024) / 2))), some (.int (nI (vr b (wd (B b) p % 1024 / 2))))] _ [.int (nI (vr b (wd (B b) p % 1024 / 2))), .int (nI k), .ref (40 + 4 * b)] rfl ?_
            refine ar_CS M_B_drop rfl rfl (Nat.le_of_ble_eq_true rfl) rfl rfl (Nat.le_of_ble_eq_true rfl) M_B_wordOf (Nat.le_of_ble_eq_true rfl) (c_B_wordOf X (d + 1) _ (k := k) (c := vr b (wd (B b) p % 1024 / 2))) (fun r1 h1 hq => ?_)
            obtain ⟨rfl, rfl⟩ := hq
            refine ⟨rfl, ?_⟩
            show ar Pg _ _ _ 89 [some (.ref 0), some (.int (nI b)), some (.int (nI k)), some (.ref (40 + 4 * b)), some (.int (nI p)), some (.int (nI ((wd (B b) p % 1024) / 2))), some (.int (nI (vr b (wd (B b) p % 1024 / 2))))] [.int (nI (1024 * k + vr b (wd (B b) p % 1024 / 2))), .ref (40 + 4 * b)] _ _
            refine ar_go M_B_drop 1 _ 90 _ [some (.ref 0), some (.int (nI b)), some (.int (nI k)), some (.ref (40 + 4 * b)), some (.int (nI p)), some (.int (nI ((wd (B b) p % 1024) / 2))), some (.int (nI (vr b (wd (B b) p % 1024 / 2))))] _ [.ref (40 + 4 * b), .int (nI (1024 * k + vr b (wd (B b) p % 1024 / 2))), .ref (40 + 4 * b)] rfl ?_
            refine ar_get M_B_drop rfl rfl hr rfl ?_
            refine ar_go M_B_drop 1 _ 95 _ [some (.ref 0), some (.int (nI b)), some (.int (nI k)), some (.ref (40 + 4 * b)), some (.int (nI p)), some (.int (nI ((wd (B b) p % 1024) / 2))), some (.int (nI (vr b (wd (B b) p % 1024 / 2))))] _ [.int (nI p), .ref ((40 + 4 * b) + 2), .int (nI (1024 * k + vr b (wd (B b) p % 1024 / 2))), .ref (40 + 4 * b)] rfl ?_
            refine ar_iald M_B_drop rfl (by unfold am_x0; omega) hg (vp_in_nI (by omega) (by decide)) ?_
            rw [nI_clamp (n := p) (by omega)]
            refine ar_top (w := .int (gd (B b) p)) (congrArg Value.int ((hfa p (by omega)).2.1)) ?_
            refine ar_go M_B_drop 1 _ 97 _ [some (.ref 0), some (.int (nI b)), some (.int (nI k)), some (.ref (40 + 4 * b)), some (.int (nI p)), some (.int (nI ((wd (B b) p % 1024) / 2))), some (.int (nI (vr b (wd (B b) p % 1024 / 2))))] _ [.int (nI 1), .int (gd (B b) p), .int (nI (1024 * k + vr b (wd (B b) p % 1024 / 2))), .ref (40 + 4 * b)] rfl ?_
            have hst := c_R_store X d _ (gr := gd (B b) p) (bb := true) (W := 1024 * k + vr b (wd (B b) p % 1024 / 2)) hR0 (by omega) hS hW (by omega)
            refine ar_CV M_B_drop rfl rfl (Or.inl rfl) rfl rfl (Nat.le_of_ble_eq_true rfl) hr M_R_store (Nat.le_of_ble_eq_true rfl) hst (fun r1 h2 hq => ?_)
            obtain ⟨rfl, hf, hR1⟩ := hq
            refine ⟨hf.1, ?_⟩
            show ar Pg _ _ _ 100 [some (.ref 0), some (.int (nI b)), some (.int (nI k)), some (.ref (40 + 4 * b)), some (.int (nI p)), some (.int (nI ((wd (B b) p % 1024) / 2))), some (.int (nI (vr b (wd (B b) p % 1024 / 2))))] [] _ _
            refine ar_go M_B_drop 1 _ 102 _ [some (.ref 0), some (.int (nI b)), some (.int (nI k)), some (.ref (40 + 4 * b)), some (.int (nI p)), some (.int (nI ((wd (B b) p % 1024) / 2))), some (.int (nI (vr b (wd (B b) p % 1024 / 2))))] _ [.int (nI (vr b (wd (B b) p % 1024 / 2)))] rfl ?_
            have hvv := stR_V hS hV (e := (1024 * k + vr b (wd (B b) p % 1024 / 2), gd (B b) p, true)) ⟨by simp only; omega, by simp only; omega, by simp only; omega⟩
            exact ar_R M_B_drop rfl rfl rfl rfl ⟨by rw [show dpR B (nI b) (nI k) = _ from onB_in hb hk _ _, if_neg (by rw [hdn]; decide), if_neg (by rw [hcte]; omega), hcte], by rw [show dpB B (nI b) (nI k) = _ from onB_in hb hk _ _, if_neg (by rw [hdn]; decide), if_neg (by rw [hcte]; omega), hcte, ← hpe]; exact hC0.bank hb hf hR1 (stR_S hS _) hvv, hf.mono (bank_cl hb)⟩
          · have hc3 := c2_ne_f (a := ((wd (B b) p % 1024) / 2)) (b := 500) (by omega) (by omega) hc3
            have hcte : ct (B b) k = 500 := by unfold ct; rw [← hpe]; simp [hch]; omega
            refine ar_go M_B_drop 1 _ 73 _ [some (.ref 0), some (.int (nI b)), some (.int (nI k)), some (.ref (40 + 4 * b)), some (.int (nI p)), some (.int (nI ((wd (B b) p % 1024) / 2))), none] _ [.int (-3)] rfl ?_
            exact ar_R M_B_drop rfl rfl rfl rfl (⟨by rw [show dpR B (nI b) (nI k) = _ from onB_in hb hk _ _, if_neg (by rw [hdn]; decide), if_pos hcte] <;> rfl, by rw [show dpB B (nI b) (nI k) = _ from onB_in hb hk _ _, if_neg (by rw [hdn]; decide), if_pos hcte]; exact hC0, fr.rf _ _⟩)
        · have hc4 := bi_eq_f hc4
          have hdn : dpN (B b) k = true := by unfold dpN; rw [← hpe]; simp [hc4]
          refine ar_go M_B_drop 1 _ 52 _ [some (.ref 0), some (.int (nI b)), some (.int (nI k)), some (.ref (40 + 4 * b)), some (.int (nI p)), none, none] _ [.int (-2)] rfl ?_
          exact ar_R M_B_drop rfl rfl rfl rfl (⟨by rw [show dpR B (nI b) (nI k) = _ from onB_in hb hk _ _, if_pos hdn] <;> rfl, by rw [show dpB B (nI b) (nI k) = _ from onB_in hb hk _ _, if_pos hdn]; exact hC0, fr.rf _ _⟩)
    · have hc2 := bi_ne_f hc2
      refine ar_go M_B_drop 1 _ 15 _ [some (.ref 0), some (.int v), some (.int w), none, none, none, none] _ [.int (-1)] rfl ?_
      exact ar_R M_B_drop rfl rfl rfl rfl (⟨by rw [show dpR B v w = _ from onB_o2 hc2 _ _] <;> rfl, by rw [show dpB B v w = B from onB_o2 hc2 _ _]; exact hC0, fr.rf _ _⟩)
theorem c_B_version (X : am_X) (d : Nat) (h : am_H) {B : Nat → Bk} {s : Int64} {u : Nat} {U : Nat → Nat} {l : Nat} {W : Nat → Nat} (hC : isCl h B s u U l W) (v w : Int32) : ar Pg X (d + 1 + 1) n_B_version 0 [some (.ref 0), some (.int v), some (.int w), none, none, none] [] h (fun rr h' => rr = some (.int (vsR B v w)) ∧ h' = h) := by
  have hC0 := hC
  obtain ⟨h0, ⟨bf, hb1, hbf⟩, hK, hX, hPr⟩ := hC
  have h0 : h[0]? = some (.inr (0, [.ref 1, .ref 2, .ref 6, .ref 10, .long s])) := h0
  refine ar_go M_B_version 1 _ 1 _ [some (.ref 0), some (.int v), some (.int w), none, none, none] _ [.int v] rfl ?_
  refine ar_CS M_B_version rfl rfl (Nat.le_of_ble_eq_true rfl) rfl rfl (Nat.le_of_ble_eq_true rfl) M_B_isBank (Nat.le_of_ble_eq_true rfl) (c_B_isBank X (d + 1) _ v) (fun r1 h1 hq => ?_)
  obtain ⟨rfl, rfl⟩ := hq
  refine ⟨rfl, ?_⟩
  show ar Pg _ _ _ 4 [some (.ref 0), some (.int v), some (.int w), none, none, none] [.int (bi (rng 4 v))] _ _
  refine ar_if M_B_version rfl rfl (fun hc1 => ?_) (fun hc1 => ?_)
  · have hc1 := bi_eq_t hc1
    refine ar_go M_B_version 1 _ 15 _ [some (.ref 0), some (.int v), some (.int w), none, none, none] _ [.int (-1)] rfl ?_
    exact ar_R M_B_version rfl rfl rfl rfl (⟨by rw [show vsR B v w = _ from onB_o1 hc1 _ _] <;> rfl, rfl⟩)
  · have hc1 := bi_eq_f hc1
    refine ar_go M_B_version 1 _ 8 _ [some (.ref 0), some (.int v), some (.int w), none, none, none] _ [.int w] rfl ?_
    refine ar_CS M_B_version rfl rfl (Nat.le_of_ble_eq_true rfl) rfl rfl (Nat.le_of_ble_eq_true rfl) M_B_isNumber (Nat.le_of_ble_eq_true rfl) (c_B_isNumber X (d + 1) _ w) (fun r1 h1 hq => ?_)
    obtain ⟨rfl, rfl⟩ := hq
    refine ⟨rfl, ?_⟩
    show ar Pg _ _ _ 11 [some (.ref 0), some (.int v), some (.int w), none, none, none] [.int (bi (rng 10000 w))] _ _
    refine ar_if M_B_version rfl rfl (fun hc2 => ?_) (fun hc2 => ?_)
    · have hc2 := bi_ne_t hc2
      obtain ⟨b, hb, rfl⟩ := rng_ex (by decide) hc1
      obtain ⟨k, hk, rfl⟩ := rng_ex (by decide) hc2
      obtain ⟨hR, hS, hV⟩ := hK b hb
      have hW := hV.W
      have hR0 := hR
      obtain ⟨hlen, hr, f, g, m, hw, hg, hm, hfa⟩ := hR
      have hpl := pos_pl (B b) k hS
      obtain ⟨p, hpe⟩ : ∃ p, p = pos (B b) k := ⟨_, rfl⟩
      rw [← hpe] at hpl
      have hpl1 := hpl.1
      refine ar_go M_B_version 1 _ 17 _ [some (.ref 0), some (.int (nI b)), some (.int (nI k)), none, none, none] _ [.ref 0] rfl ?_
      refine ar_get M_B_version rfl rfl h0 rfl ?_
      refine ar_go M_B_version 1 _ 21 _ [some (.ref 0), some (.int (nI b)), some (.int (nI k)), none, none, none] _ [.int (nI b), .ref 1] rfl ?_
      refine ar_aald M_B_version rfl hb1 (Or.inr rfl) (vp_in_nI (by omega) (by decide)) (by rw [nI_clamp (n := b) (by omega)]; exact hbf b (by omega)) ?_
      refine ar_go M_B_version 3 _ 25 _ [some (.ref 0), some (.int (nI b)), some (.int (nI k)), some (.ref (40 + 4 * b)), none, none] _ [.int (nI k), .ref (40 + 4 * b)] rfl ?_
      refine ar_CV M_B_version rfl rfl (Or.inl rfl) rfl rfl (Nat.le_of_ble_eq_true rfl) hr M_R_placeOf (Nat.le_of_ble_eq_true rfl) (c_R_pos X (d + 1) _ hR0 (by omega) hS hW (by omega)) (fun r1 h1 hq => ?_)
      obtain ⟨rfl, rfl⟩ := hq
      refine ⟨rfl, ?_⟩
      rw [← hpe]
      show ar Pg _ _ _ 28 [some (.ref 0), some (.int (nI b)), some (.int (nI k)), some (.ref (40 + 4 * b)), none, none] [.int (nI p)] _ _
      refine ar_go M_B_version 4 _ 34 _ [some (.ref 0), some (.int (nI b)), some (.int (nI k)), some (.ref (40 + 4 * b)), some (.int (nI p)), none] _ [.int (nI k), .int (nI p), .ref (40 + 4 * b)] rfl ?_
      refine ar_CV M_B_version rfl rfl (Or.inl rfl) rfl rfl (Nat.le_of_ble_eq_true rfl) hr M_R_holdsAt (Nat.le_of_ble_eq_true rfl) (c_R_holdsAt X (d + 1) _ hR0 (by omega) hW (by omega) (by omega)) (fun r1 h1 hq => ?_)
      obtain ⟨rfl, rfl⟩ := hq
      refine ⟨rfl, ?_⟩
      show ar Pg _ _ _ 37 [some (.ref 0), some (.int (nI b)), some (.int (nI k)), some (.ref (40 + 4 * b)), some (.int (nI p)), none] [.int (bi (hasAt (B b) p k))] _ _
      refine ar_if M_B_version rfl rfl (fun hc => ?_) (fun hc => ?_)
      · have hc := bi_ne_t hc
        have hh := hasAt_iff.mp hc
        have hwp := hW p hh.1
        refine ar_go M_B_version 2 _ 45 _ [some (.ref 0), some (.int (nI b)), some (.int (nI k)), some (.ref (40 + 4 * b)), some (.int (nI p)), none] _ [.int (nI p), .ref (40 + 4 * b)] rfl ?_
        refine ar_CV M_B_version rfl rfl (Or.inl rfl) rfl rfl (Nat.le_of_ble_eq_true rfl) hr M_R_versionAt (Nat.le_of_ble_eq_true rfl) (c_R_versionAt X (d + 1) _ hR0 (by omega) hW hh.1) (fun r1 h1 hq => ?_)
        obtain ⟨rfl, rfl⟩ := hq
        refine ⟨rfl, ?_⟩
        show ar Pg _ _ _ 48 [some (.ref 0), some (.int (nI b)), some (.int (nI k)), some (.ref (40 + 4 * b)), some (.int (nI p)), none] [.int (nI (wd (B b) p % 1024))] _ _
        refine ar_go M_B_version 2 _ 51 _ [some (.ref 0), some (.int (nI b)), some (.int (nI k)), some (.ref (40 + 4 * b)), some (.int (nI p)), some (.int (nI (wd (B b) p % 1024)))] _ [.ref (40 + 4 * b)] rfl ?_
        refine ar_get M_B_version rfl rfl hr rfl ?_
        refine ar_go M_B_version 1 _ 56 _ [some (.ref 0), some (.int (nI b)), some (.int (nI k)), some (.ref (40 + 4 * b)), some (.int (nI p)), some (.int (nI (wd (B b) p % 1024)))] _ [.int (nI p), .ref ((40 + 4 * b) + 3)] rfl ?_
        refine ar_zald M_B_version rfl hm (vp_in_nI (by omega) (by decide)) ?_
        rw [nI_clamp (n := p) (by omega)]
        refine ar_top (w := .int (bi (dd (B b) p))) (congrArg Value.int ((hfa p (by omega)).2.2)) ?_
        refine ar_if M_B_version rfl rfl (fun hc4 => ?_) (fun hc4 => ?_)
        · have hc4 := bi_eq_t hc4
          refine ar_go M_B_version 1 _ 68 _ [some (.ref 0), some (.int (nI b)), some (.int (nI k)), some (.ref (40 + 4 * b)), some (.int (nI p)), some (.int (nI (wd (B b) p % 1024)))] _ [.int (nI (wd (B b) p % 1024))] rfl ?_
          exact ar_R M_B_version rfl rfl rfl rfl (⟨by rw [show vsR B (nI b) (nI k) = _ from onB_in hb hk _ _, ← hpe, if_pos hc, if_neg (by rw [hc4]; decide)], rfl⟩)
        · have hc4 := bi_eq_f hc4
          refine ar_go M_B_version 3 _ 68 _ [some (.ref 0), some (.int (nI b)), some (.int (nI k)), some (.ref (40 + 4 * b)), some (.int (nI p)), some (.int (nI (wd (B b) p % 1024)))] _ [.int (-(nI (wd (B b) p % 1024)))] rfl ?_
          exact ar_R M_B_version rfl rfl rfl rfl (⟨by rw [show vsR B (nI b) (nI k) = _ from onB_in hb hk _ _, ← hpe, if_pos hc, if_pos hc4], rfl⟩)
      · have hc := bi_ne_f hc
        refine ar_go M_B_version 1 _ 41 _ [some (.ref 0), some (.int (nI b)), some (.int (nI k)), some (.ref (40 + 4 * b)), some (.int (nI p)), none] _ [.int (nI 0)] rfl ?_
        exact ar_R M_B_version rfl rfl rfl rfl (⟨by rw [show vsR B (nI b) (nI k) = _ from onB_in hb hk _ _, ← hpe, if_neg (by rw [hc]; decide)] <;> rfl, rfl⟩)
    · have hc2 := bi_ne_f hc2
      refine ar_go M_B_version 1 _ 15 _ [some (.ref 0), some (.int v), some (.int w), none, none, none] _ [.int (-1)] rfl ?_
      exact ar_R M_B_version rfl rfl rfl rfl (⟨by rw [show vsR B v w = _ from onB_o2 hc2 _ _] <;> rfl, rfl⟩)
theorem c_B_grams (X : am_X) (d : Nat) (h : am_H) {B : Nat → Bk} {s : Int64} {u : Nat} {U : Nat → Nat} {l : Nat} {W : Nat → Nat} (hC : isCl h B s u U l W) (v w : Int32) : ar Pg X (d + 1 + 1) n_B_grams 0 [some (.ref 0), some (.int v), some (.int w), none, none] [] h (fun rr h' => rr = some (.int (grR B v w)) ∧ h' = h) := by
  have hC0 := hC
  obtain ⟨h0, ⟨bf, hb1, hbf⟩, hK, hX, hPr⟩ := hC
  have h0 : h[0]? = some (.inr (0, [.ref 1, .ref 2, .ref 6, .ref 10, .long s])) := h0
  refine ar_go M_B_grams 1 _ 1 _ [some (.ref 0), some (.int v), some (.int w), none, none] _ [.int v] rfl ?_
  refine ar_CS M_B_grams rfl rfl (Nat.le_of_ble_eq_true rfl) rfl rfl (Nat.le_of_ble_eq_true rfl) M_B_isBank (Nat.le_of_ble_eq_true rfl) (c_B_isBank X (d + 1) _ v) (fun r1 h1 hq => ?_)
  obtain ⟨rfl, rfl⟩ := hq
  refine ⟨rfl, ?_⟩
  show ar Pg _ _ _ 4 [some (.ref 0), some (.int v), some (.int w), none, none] [.int (bi (rng 4 v))] _ _
  refine ar_if M_B_grams rfl rfl (fun hc1 => ?_) (fun hc1 => ?_)
  · have hc1 := bi_eq_t hc1
    refine ar_go M_B_grams 1 _ 15 _ [some (.ref 0), some (.int v), some (.int w), none, none] _ [.int (nI 0)] rfl ?_
    exact ar_R M_B_grams rfl rfl rfl rfl (⟨by rw [show grR B v w = _ from onB_o1 hc1 _ _] <;> rfl, rfl⟩)
  · have hc1 := bi_eq_f hc1
    refine ar_go M_B_grams 1 _ 8 _ [some (.ref 0), some (.int v), some (.int w), none, none] _ [.int w] rfl ?_
    refine ar_CS M_B_grams rfl rfl (Nat.le_of_ble_eq_true rfl) rfl rfl (Nat.le_of_ble_eq_true rfl) M_B_isNumber (Nat.le_of_ble_eq_true rfl) (c_B_isNumber X (d + 1) _ w) (fun r1 h1 hq => ?_)
    obtain ⟨rfl, rfl⟩ := hq
    refine ⟨rfl, ?_⟩
    show ar Pg _ _ _ 11 [some (.ref 0), some (.int v), some (.int w), none, none] [.int (bi (rng 10000 w))] _ _
    refine ar_if M_B_grams rfl rfl (fun hc2 => ?_) (fun hc2 => ?_)
    · have hc2 := bi_ne_t hc2
      obtain ⟨b, hb, rfl⟩ := rng_ex (by decide) hc1
      obtain ⟨k, hk, rfl⟩ := rng_ex (by decide) hc2
      obtain ⟨hR, hS, hV⟩ := hK b hb
      have hW := hV.W
      have hR0 := hR
      obtain ⟨hlen, hr, f, g, m, hw, hg, hm, hfa⟩ := hR
      have hpl := pos_pl (B b) k hS
      obtain ⟨p, hpe⟩ : ∃ p, p = pos (B b) k := ⟨_, rfl⟩
      rw [← hpe] at hpl
      have hpl1 := hpl.1
      refine ar_go M_B_grams 1 _ 17 _ [some (.ref 0), some (.int (nI b)), some (.int (nI k)), none, none] _ [.ref 0] rfl ?_
      refine ar_get M_B_grams rfl rfl h0 rfl ?_
      refine ar_go M_B_grams 1 _ 21 _ [some (.ref 0), some (.int (nI b)), some (.int (nI k)), none, none] _ [.int (nI b), .ref 1] rfl ?_
      refine ar_aald M_B_grams rfl hb1 (Or.inr rfl) (vp_in_nI (by omega) (by decide)) (by rw [nI_clamp (n := b) (by omega)]; exact hbf b (by omega)) ?_
      refine ar_go M_B_grams 3 _ 25 _ [some (.ref 0), some (.int (nI b)), some (.int (nI k)), some (.ref (40 + 4 * b)), none] _ [.int (nI k), .ref (40 + 4 * b)] rfl ?_
      refine ar_CV M_B_grams rfl rfl (Or.inl rfl) rfl rfl (Nat.le_of_ble_eq_true rfl) hr M_R_placeOf (Nat.le_of_ble_eq_true rfl) (c_R_pos X (d + 1) _ hR0 (by omega) hS hW (by omega)) (fun r1 h1 hq => ?_)
      obtain ⟨rfl, rfl⟩ := hq
      refine ⟨rfl, ?_⟩
      rw [← hpe]
      show ar Pg _ _ _ 28 [some (.ref 0), some (.int (nI b)), some (.int (nI k)), some (.ref (40 + 4 * b)), none] [.int (nI p)] _ _
      refine ar_go M_B_grams 4 _ 34 _ [some (.ref 0), some (.int (nI b)), some (.int (nI k)), some (.ref (40 + 4 * b)), some (.int (nI p))] _ [.int (nI k), .int (nI p), .ref (40 + 4 * b)] rfl ?_
      refine ar_CV M_B_grams rfl rfl (Or.inl rfl) rfl rfl (Nat.le_of_ble_eq_true rfl) hr M_R_holdsAt (Nat.le_of_ble_eq_true rfl) (c_R_holdsAt X (d + 1) _ hR0 (by omega) hW (by omega) (by omega)) (fun r1 h1 hq => ?_)
      obtain ⟨rfl, rfl⟩ := hq
      refine ⟨rfl, ?_⟩
      show ar Pg _ _ _ 37 [some (.ref 0), some (.int (nI b)), some (.int (nI k)), some (.ref (40 + 4 * b)), some (.int (nI p))] [.int (bi (hasAt (B b) p k))] _ _
      refine ar_if M_B_grams rfl rfl (fun hc => ?_) (fun hc => ?_)
      · have hc := bi_eq_t hc
        refine ar_go M_B_grams 1 _ 51 _ [some (.ref 0), some (.int (nI b)), some (.int (nI k)), some (.ref (40 + 4 * b)), some (.int (nI p))] _ [.int (nI 0)] rfl ?_
        exact ar_R M_B_grams rfl rfl rfl rfl (⟨by rw [show grR B (nI b) (nI k) = _ from onB_in hb hk _ _, ← hpe, if_neg (by rw [hc]; decide)] <;> rfl, rfl⟩)
      · have hc := bi_eq_f hc
        have hh := hasAt_iff.mp hc
        refine ar_go M_B_grams 1 _ 41 _ [some (.ref 0), some (.int (nI b)), some (.int (nI k)), some (.ref (40 + 4 * b)), some (.int (nI p))] _ [.ref (40 + 4 * b)] rfl ?_
        refine ar_get M_B_grams rfl rfl hr rfl ?_
        refine ar_go M_B_grams 1 _ 46 _ [some (.ref 0), some (.int (nI b)), some (.int (nI k)), some (.ref (40 + 4 * b)), some (.int (nI p))] _ [.int (nI p), .ref ((40 + 4 * b) + 2)] rfl ?_
        refine ar_iald M_B_grams rfl (by unfold am_x0; omega) hg (vp_in_nI (by omega) (by decide)) ?_
        rw [nI_clamp (n := p) (by omega)]
        refine ar_top (w := .int (gd (B b) p)) (congrArg Value.int ((hfa p (by omega)).2.1)) ?_
        refine ar_go M_B_grams 1 _ 51 _ [some (.ref 0), some (.int (nI b)), some (.int (nI k)), some (.ref (40 + 4 * b)), some (.int (nI p))] _ [.int (gd (B b) p)] rfl ?_
        exact ar_R M_B_grams rfl rfl rfl rfl (⟨by rw [show grR B (nI b) (nI k) = _ from onB_in hb hk _ _, ← hpe, if_pos hc], rfl⟩)
    · have hc2 := bi_ne_f hc2
      refine ar_go M_B_grams 1 _ 15 _ [some (.ref 0), some (.int v), some (.int w), none, none] _ [.int (nI 0)] rfl ?_
      exact ar_R M_B_grams rfl rfl rfl rfl (⟨by rw [show grR B v w = _ from onB_o2 hc2 _ _] <;> rfl, rfl⟩)
theorem c_B_size (X : am_X) (d : Nat) (h : am_H) {B : Nat → Bk} {s : Int64} {u : Nat} {U : Nat → Nat} {l : Nat} {W : Nat → Nat} (hC : isCl h B s u U l W) (v : Int32) : ar Pg X (d + 1 + 1) n_B_size 0 [some (.ref 0), some (.int v)] [] h (fun rr h' => rr = some (.int (szR B v)) ∧ h' = h) := by
  have hC0 := hC
  obtain ⟨h0, ⟨bf, hb1, hbf⟩, hK, hX, hPr⟩ := hC
  have h0 : h[0]? = some (.inr (0, [.ref 1, .ref 2, .ref 6, .ref 10, .long s])) := h0
  refine ar_go M_B_size 1 _ 1 _ [some (.ref 0), some (.int v)] _ [.int v] rfl ?_
  refine ar_CS M_B_size rfl rfl (Nat.le_of_ble_eq_true rfl) rfl rfl (Nat.le_of_ble_eq_true rfl) M_B_isBank (Nat.le_of_ble_eq_true rfl) (c_B_isBank X (d + 1) _ v) (fun r1 h1 hq => ?_)
  obtain ⟨rfl, rfl⟩ := hq
  refine ⟨rfl, ?_⟩
  show ar Pg _ _ _ 4 [some (.ref 0), some (.int v)] [.int (bi (rng 4 v))] _ _
  refine ar_if M_B_size rfl rfl (fun hc1 => ?_) (fun hc1 => ?_)
  · have hc1 := bi_eq_t hc1
    refine ar_go M_B_size 1 _ 20 _ [some (.ref 0), some (.int v)] _ [.int (-1)] rfl ?_
    exact ar_R M_B_size rfl rfl rfl rfl (⟨by rw [szR, if_neg (by rw [hc1]; decide)] <;> rfl, rfl⟩)
  · have hc1 := bi_eq_f hc1
    have hcc := hc1
    obtain ⟨b, hb, rfl⟩ := rng_ex (by decide) hc1
    obtain ⟨hR, hS, hV⟩ := hK b hb
    have hW := hV.W
    have hR0 := hR
    obtain ⟨hlen, hr, f, g, m, hw, hg, hm, hfa⟩ := hR
    refine ar_go M_B_size 1 _ 8 _ [some (.ref 0), some (.int (nI b))] _ [.ref 0] rfl ?_
    refine ar_get M_B_size rfl rfl h0 rfl ?_
    refine ar_go M_B_size 1 _ 12 _ [some (.ref 0), some (.int (nI b))] _ [.int (nI b), .ref 1] rfl ?_
    refine ar_aald M_B_size rfl hb1 (Or.inr rfl) (vp_in_nI (by omega) (by decide)) (by rw [nI_clamp (n := b) (by omega)]; exact hbf b (by omega)) ?_
    refine ar_get M_B_size rfl rfl hr rfl ?_
    refine ar_go M_B_size 1 _ 20 _ [some (.ref 0), some (.int (nI b))] _ [.int (nI ((B b).length))] rfl ?_
    exact ar_R M_B_size rfl rfl rfl rfl (⟨by rw [szR, if_pos hcc, nI_clamp (by omega)], rfl⟩)
theorem c_B_word (X : am_X) (d : Nat) (h : am_H) {B : Nat → Bk} {s : Int64} {u : Nat} {U : Nat → Nat} {l : Nat} {W : Nat → Nat} (hC : isCl h B s u U l W) (v w : Int32) : ar Pg X (d + 1 + 1) n_B_word 0 [some (.ref 0), some (.int v), some (.int w)] [] h (fun rr h' => rr = some (.int (wdR B v w)) ∧ h' = h) := by
  have hC0 := hC
  obtain ⟨h0, ⟨bf, hb1, hbf⟩, hK, hX, hPr⟩ := hC
  have h0 : h[0]? = some (.inr (0, [.ref 1, .ref 2, .ref 6, .ref 10, .long s])) := h0
  refine ar_go M_B_word 1 _ 1 _ [some (.ref 0), some (.int v), some (.int w)] _ [.int v] rfl ?_
  refine ar_CS M_B_word rfl rfl (Nat.le_of_ble_eq_true rfl) rfl rfl (Nat.le_of_ble_eq_true rfl) M_B_isBank (Nat.le_of_ble_eq_true rfl) (c_B_isBank X (d + 1) _ v) (fun r1 h1 hq => ?_)
  obtain ⟨rfl, rfl⟩ := hq
  refine ⟨rfl, ?_⟩
  show ar Pg _ _ _ 4 [some (.ref 0), some (.int v), some (.int w)] [.int (bi (rng 4 v))] _ _
  refine ar_if M_B_word rfl rfl (fun hc1 => ?_) (fun hc1 => ?_)
  · have hc1 := bi_eq_t hc1
    refine ar_go M_B_word 1 _ 25 _ [some (.ref 0), some (.int v), some (.int w)] _ [.int (-1)] rfl ?_
    exact ar_R M_B_word rfl rfl rfl rfl (⟨by rw [wdR, if_neg (by simp [hc1])] <;> rfl, rfl⟩)
  · have hc1 := bi_eq_f hc1
    have hcc := hc1
    obtain ⟨b, hb, rfl⟩ := rng_ex (by decide) hc1
    obtain ⟨hR, hS, hV⟩ := hK b hb
    have hW := hV.W
    have hR0 := hR
    obtain ⟨hlen, hr, f, g, m, hw, hg, hm, hfa⟩ := hR
    refine ar_go M_B_word 1 _ 8 _ [some (.ref 0), some (.int (nI b)), some (.int w)] _ [.int w] rfl ?_
    refine ar_if M_B_word rfl rfl (fun hc2 => ?_) (fun hc2 => ?_)
    · refine ar_go M_B_word 1 _ 25 _ [some (.ref 0), some (.int (nI b)), some (.int w)] _ [.int (-1)] rfl ?_
      exact ar_R M_B_word rfl rfl rfl rfl (⟨by rw [wdR, if_neg (by simp [nI_clamp (show b < 2 ^ 31 by omega), rng, c2_gl, hc2])] <;> rfl, rfl⟩)
    · refine ar_go M_B_word 2 _ 13 _ [some (.ref 0), some (.int (nI b)), some (.int w)] _ [.ref 0, .int w] rfl ?_
      refine ar_get M_B_word rfl rfl h0 rfl ?_
      refine ar_go M_B_word 1 _ 17 _ [some (.ref 0), some (.int (nI b)), some (.int w)] _ [.int (nI b), .ref 1, .int w] rfl ?_
      refine ar_aald M_B_word rfl hb1 (Or.inr rfl) (vp_in_nI (by omega) (by decide)) (by rw [nI_clamp (n := b) (by omega)]; exact hbf b (by omega)) ?_
      refine ar_get M_B_word rfl rfl hr rfl ?_
      refine ar_icmp M_B_word rfl rfl (fun hc3 => ?_) (fun hc3 => ?_)
      · obtain ⟨k, hk, rfl⟩ := rng_ex (n := (B b).length) (v := w) (by omega) (by simp [rng, c2_gl, hc2, hc3])
        refine ar_go M_B_word 1 _ 27 _ [some (.ref 0), some (.int (nI b)), some (.int (nI k))] _ [.ref 0] rfl ?_
        refine ar_get M_B_word rfl rfl h0 rfl ?_
        refine ar_go M_B_word 1 _ 31 _ [some (.ref 0), some (.int (nI b)), some (.int (nI k))] _ [.int (nI b), .ref 1] rfl ?_
        refine ar_aald M_B_word rfl hb1 (Or.inr rfl) (vp_in_nI (by omega) (by decide)) (by rw [nI_clamp (n := b) (by omega)]; exact hbf b (by omega)) ?_
        refine ar_get M_B_word rfl rfl hr rfl ?_
        refine ar_go M_B_word 1 _ 36 _ [some (.ref 0), some (.int (nI b)), some (.int (nI k))] _ [.int (nI k), .ref ((40 + 4 * b) + 1)] rfl ?_
        refine ar_iald M_B_word rfl (by unfold am_x0; omega) hw (vp_in_nI (by omega) (by decide)) ?_
        rw [nI_clamp (n := k) (by omega)]
        refine ar_top (w := .int (nI (wd (B b) k))) (congrArg Value.int ((hfa k (by omega)).1)) ?_
        exact ar_R M_B_word rfl rfl rfl rfl (⟨by rw [wdR, nI_clamp (show b < 2 ^ 31 by omega), nI_clamp (show k < 2 ^ 31 by omega), if_pos (by rw [hcc, rng_t hk (by omega)]; rfl)], rfl⟩)
      · refine ar_go M_B_word 1 _ 25 _ [some (.ref 0), some (.int (nI b)), some (.int w)] _ [.int (-1)] rfl ?_
        exact ar_R M_B_word rfl rfl rfl rfl (⟨by rw [wdR, if_neg (by simp [nI_clamp (show b < 2 ^ 31 by omega), rng, c2_gl, hc3])] <;> rfl, rfl⟩)
theorem c_B_sample (X : am_X) (d : Nat) (h : am_H) {B : Nat → Bk} {s : Int64} {u : Nat} {U : Nat → Nat} {l : Nat} {W : Nat → Nat} (hC : isCl h B s u U l W) (v w : Int32) : ar Pg X (d + 1 + 1) n_B_sample 0 [some (.ref 0), some (.int v), some (.int w)] [] h (fun rr h' => rr = some (.int (smR B v w)) ∧ h' = h) := by
  have hC0 := hC
  obtain ⟨h0, ⟨bf, hb1, hbf⟩, hK, hX, hPr⟩ := hC
  have h0 : h[0]? = some (.inr (0, [.ref 1, .ref 2, .ref 6, .ref 10, .long s])) := h0
  refine ar_go M_B_sample 1 _ 1 _ [some (.ref 0), some (.int v), some (.int w)] _ [.int v] rfl ?_
  refine ar_CS M_B_sample rfl rfl (Nat.le_of_ble_eq_true rfl) rfl rfl (Nat.le_of_ble_eq_true rfl) M_B_isBank (Nat.le_of_ble_eq_true rfl) (c_B_isBank X (d + 1) _ v) (fun r1 h1 hq => ?_)
  obtain ⟨rfl, rfl⟩ := hq
  refine ⟨rfl, ?_⟩
  show ar Pg _ _ _ 4 [some (.ref 0), some (.int v), some (.int w)] [.int (bi (rng 4 v))] _ _
  refine ar_if M_B_sample rfl rfl (fun hc1 => ?_) (fun hc1 => ?_)
  · have hc1 := bi_eq_t hc1
    refine ar_go M_B_sample 1 _ 18 _ [some (.ref 0), some (.int v), some (.int w)] _ [.int (-1)] rfl ?_
    exact ar_R M_B_sample rfl rfl rfl rfl (⟨by rw [smR, if_neg (by simp [hc1])] <;> rfl, rfl⟩)
  · have hc1 := bi_eq_f hc1
    have hcc := hc1
    obtain ⟨b, hb, rfl⟩ := rng_ex (by decide) hc1
    obtain ⟨hR, hS, hV⟩ := hK b hb
    have hW := hV.W
    have hR0 := hR
    obtain ⟨hlen, hr, f, g, m, hw, hg, hm, hfa⟩ := hR
    refine ar_go M_B_sample 1 _ 8 _ [some (.ref 0), some (.int (nI b)), some (.int w)] _ [.int w] rfl ?_
    refine ar_if M_B_sample rfl rfl (fun hc2 => ?_) (fun hc2 => ?_)
    · refine ar_go M_B_sample 1 _ 18 _ [some (.ref 0), some (.int (nI b)), some (.int w)] _ [.int (-1)] rfl ?_
      exact ar_R M_B_sample rfl rfl rfl rfl (⟨by rw [smR, if_neg (by simp [rng, c2_gl, hc2])] <;> rfl, rfl⟩)
    · refine ar_go M_B_sample 2 _ 14 _ [some (.ref 0), some (.int (nI b)), some (.int w)] _ [.int (nI 18), .int w] rfl ?_
      refine ar_icmp M_B_sample rfl rfl (fun hc3 => ?_) (fun hc3 => ?_)
      · obtain ⟨k, hk, rfl⟩ := rng_ex (n := 18) (v := w) (by omega) (by simp [rng, c2_gl, hc2, hc3])
        refine ar_go M_B_sample 1 _ 20 _ [some (.ref 0), some (.int (nI b)), some (.int (nI k))] _ [.ref 0] rfl ?_
        refine ar_get M_B_sample rfl rfl h0 rfl ?_
        refine ar_go M_B_sample 1 _ 24 _ [some (.ref 0), some (.int (nI b)), some (.int (nI k))] _ [.int (nI b), .ref 1] rfl ?_
        refine ar_aald M_B_sample rfl hb1 (Or.inr rfl) (vp_in_nI (by omega) (by decide)) (by rw [nI_clamp (n := b) (by omega)]; exact hbf b (by omega)) ?_
        refine ar_go M_B_sample 3 _ 30 _ [some (.ref 0), some (.int (nI b)), some (.int (nI k))] _ [.long ((nI k).toInt64), .long (lN 1073741824), .ref (40 + 4 * b)] rfl ?_
        refine ar_top (w := .long (lN k)) (congrArg Value.long (nI_l (by omega))) ?_
        refine ar_go M_B_sample 1 _ 31 _ [some (.ref 0), some (.int (nI b)), some (.int (nI k))] _ [.long (lN 1073741824 + lN k), .ref (40 + 4 * b)] rfl ?_
        refine ar_top (w := .long (lN (1073741824 + k))) (congrArg Value.long (lN_add 1073741824 k)) ?_
        refine ar_CV M_B_sample rfl rfl (Or.inl rfl) rfl rfl (Nat.le_of_ble_eq_true rfl) hr M_R_sampleAt (Nat.le_of_ble_eq_true rfl) (c_R_sampleAt X d _ (x := 1073741824 + k) hR0 (by omega) hW (by omega) (by omega)) (fun r1 h1 hq => ?_)
        obtain ⟨rfl, rfl⟩ := hq
        refine ⟨rfl, ?_⟩
        show ar Pg _ _ _ 34 [some (.ref 0), some (.int (nI b)), some (.int (nI k))] [.long (lN (smp (B b) (1073741824 + k) (B b).length))] _ _
        refine ar_go M_B_sample 1 _ 35 _ [some (.ref 0), some (.int (nI b)), some (.int (nI k))] _ [.int ((lN (smp (B b) (1073741824 + k) (B b).length)).toInt32)] rfl ?_
        refine ar_top (w := .int (nI (smp (B b) (1073741824 + k) (B b).length))) (congrArg Value.int (lN_i (smp (B b) (1073741824 + k) (B b).length))) ?_
        exact ar_R M_B_sample rfl rfl rfl rfl (⟨by rw [smR, nI_clamp (show b < 2 ^ 31 by omega), nI_clamp (show k < 2 ^ 31 by omega), if_pos (by rw [hcc, rng_t hk (by omega)]; rfl)], rfl⟩)
      · refine ar_go M_B_sample 1 _ 18 _ [some (.ref 0), some (.int (nI b)), some (.int w)] _ [.int (-1)] rfl ?_
        exact ar_R M_B_sample rfl rfl rfl rfl (⟨by rw [smR, if_neg (by simp [rng, c2_gl, hc3])] <;> rfl, rfl⟩)
theorem c_B_difference (X : am_X) (d : Nat) (h : am_H) {B : Nat → Bk} {s : Int64} {u : Nat} {U : Nat → Nat} {l : Nat} {W : Nat → Nat} (hC : isCl h B s u U l W) (v w : Int32) : ar Pg X (d + 1 + 1) n_B_difference 0 [some (.ref 0), some (.int v), some (.int w), none, none] [] h (fun rr h' => rr = some (.int (dfR B v w)) ∧ h' = h) := by
  have hC0 := hC
  obtain ⟨h0, ⟨bf, hb1, hbf⟩, hK, hX, hPr⟩ := hC
  have h0 : h[0]? = some (.inr (0, [.ref 1, .ref 2, .ref 6, .ref 10, .long s])) := h0
  refine ar_go M_B_difference 2 _ 2 _ [some (.ref 0), some (.int v), some (.int w), none, none] _ [.int w, .int v] rfl ?_
  refine ar_CS M_B_difference rfl rfl (Nat.le_of_ble_eq_true rfl) rfl rfl (Nat.le_of_ble_eq_true rfl) M_B_areTwoBanks (Nat.le_of_ble_eq_true rfl) (c_B_areTwoBanks X d _ v w) (fun r1 h1 hq => ?_)
  obtain ⟨rfl, rfl⟩ := hq
  refine ⟨rfl, ?_⟩
  show ar Pg _ _ _ 5 [some (.ref 0), some (.int v), some (.int w), none, none] [.int (bi (twB v w))] _ _
  refine ar_if M_B_difference rfl rfl (fun hc1 => ?_) (fun hc1 => ?_)
  · have hc1 := bi_ne_t hc1
    have hcc := hc1
    obtain ⟨b, c, hb, hb2, hne, rfl, rfl⟩ := twB_ex hc1
    obtain ⟨hR, hS, hV⟩ := hK b hb
    have hW := hV.W
    have hR0 := hR
    obtain ⟨hlen, hr, f, g, m, hw, hg, hm, hfa⟩ := hR
    obtain ⟨hR2, hS2, hV2⟩ := hK c hb2
    have hW2 := hV2.W
    have hR02 := hR2
    obtain ⟨hlen2, hr2, f2, g2, m2, hw2, hg2, hm2, hfa2⟩ := hR2
    refine ar_go M_B_difference 1 _ 11 _ [some (.ref 0), some (.int (nI b)), some (.int (nI c)), none, none] _ [.ref 0] rfl ?_
    refine ar_get M_B_difference rfl rfl h0 rfl ?_
    refine ar_go M_B_difference 1 _ 15 _ [some (.ref 0), some (.int (nI b)), some (.int (nI c)), none, none] _ [.int (nI b), .ref 1] rfl ?_
    refine ar_aald M_B_difference rfl hb1 (Or.inr rfl) (vp_in_nI (by omega) (by decide)) (by rw [nI_clamp (n := b) (by omega)]; exact hbf b (by omega)) ?_
    refine ar_go M_B_difference 2 _ 18 _ [some (.ref 0), some (.int (nI b)), some (.int (nI c)), some (.ref (40 + 4 * b)), none] _ [.ref 0] rfl ?_
    refine ar_get M_B_difference rfl rfl h0 rfl ?_
    refine ar_go M_B_difference 1 _ 22 _ [some (.ref 0), some (.int (nI b)), some (.int (nI c)), some (.ref (40 + 4 * b)), none] _ [.int (nI c), .ref 1] rfl ?_
    refine ar_aald M_B_difference rfl hb1 (Or.inr rfl) (vp_in_nI (by omega) (by decide)) (by rw [nI_clamp (n := c) (by omega)]; exact hbf c (by omega)) ?_
    refine ar_go M_B_difference 2 _ 26 _ [some (.ref 0), some (.int (nI b)), some (.int (nI c)), some (.ref (40 + 4 * b)), some (.ref (40 + 4 * c))] _ [.ref (40 + 4 * b)] rfl ?_
    refine ar_get M_B_difference rfl rfl hr rfl ?_
    refine ar_go M_B_difference 1 _ 31 _ [some (.ref 0), some (.int (nI b)), some (.int (nI c)), some (.ref (40 + 4 * b)), some (.ref (40 + 4 * c))] _ [.ref (40 + 4 * c), .int (nI ((B b).length))] rfl ?_
    refine ar_get M_B_difference rfl rfl hr2 rfl ?_
    refine ar_go M_B_difference 1 _ 35 _ [some (.ref 0), some (.int (nI b)), some (.int (nI c)), some (.ref (40 + 4 * b)), some (.ref (40 + 4 * c))] _ [.int (nI ((B b).length) + nI ((B c).length))] rfl ?_
    refine ar_top (w := .int (nI (((B b).length) + ((B c).length)))) (congrArg Value.int (nI_add ((B b).length) ((B c).length))) ?_
    refine ar_go M_B_difference 3 _ 39 _ [some (.ref 0), some (.int (nI b)), some (.int (nI c)), some (.ref (40 + 4 * b)), some (.ref (40 + 4 * c))] _ [.ref (40 + 4 * c), .ref (40 + 4 * b), .int (nI 2), .int (nI (((B b).length) + ((B c).length)))] rfl ?_
    refine ar_CV M_B_difference rfl rfl (Or.inl rfl) rfl rfl (Nat.le_of_ble_eq_true rfl) hr M_R_wordsSharedWith (Nat.le_of_ble_eq_true rfl) (c_R_wordsSharedWith X d _ hR0 hR02 (by omega) (by omega) hS2 hW hW2) (fun r1 h1 hq => ?_)
    obtain ⟨rfl, rfl⟩ := hq
    refine ⟨rfl, ?_⟩
    show ar Pg _ _ _ 42 [some (.ref 0), some (.int (nI b)), some (.int (nI c)), some (.ref (40 + 4 * b)), some (.ref (40 + 4 * c))] [.int (nI (cntB (shB (B b) (B c)) (B b).length)), .int (nI 2), .int (nI (((B b).length) + ((B c).length)))] _ _
    refine ar_go M_B_difference 1 _ 43 _ [some (.ref 0), some (.int (nI b)), some (.int (nI c)), some (.ref (40 + 4 * b)), some (.ref (40 + 4 * c))] _ [.int (nI 2 * nI (cntB (shB (B b) (B c)) (B b).length)), .int (nI (((B b).length) + ((B c).length)))] rfl ?_
    refine ar_top (w := .int (nI (2 * (cntB (shB (B b) (B c)) (B b).length)))) (congrArg Value.int (pk_mul 2 (cntB (shB (B b) (B c)) (B b).length))) ?_
    refine ar_go M_B_difference 1 _ 44 _ [some (.ref 0), some (.int (nI b)), some (.int (nI c)), some (.ref (40 + 4 * b)), some (.ref (40 + 4 * c))] _ [.int (nI (((B b).length) + ((B c).length)) - nI (2 * (cntB (shB (B b) (B c)) (B b).length)))] rfl ?_
    refine ar_top (w := .int (nI ((B b).length + (B c).length) - nI (2 * cntB (shB (B b) (B c)) (B b).length))) (congrArg Value.int rfl) ?_
    exact ar_R M_B_difference rfl rfl rfl rfl (⟨by rw [dfR, if_pos hcc, nI_clamp (show b < 2 ^ 31 by omega), nI_clamp (show c < 2 ^ 31 by omega)], rfl⟩)
  · have hc1 := bi_ne_f hc1
    refine ar_go M_B_difference 1 _ 9 _ [some (.ref 0), some (.int v), some (.int w), none, none] _ [.int (-1)] rfl ?_
    exact ar_R M_B_difference rfl rfl rfl rfl (⟨by rw [dfR, if_neg (by rw [hc1]; decide)] <;> rfl, rfl⟩)
theorem c_B_sent (X : am_X) (d : Nat) (h : am_H) {B : Nat → Bk} {s : Int64} {u : Nat} {U : Nat → Nat} {l : Nat} {W : Nat → Nat} (hC : isCl h B s u U l W) : ar Pg X d n_B_sent 0 [some (.ref 0)] [] h (fun rr h' => rr = some (.long s) ∧ h' = h) := by
  have hC0 := hC
  obtain ⟨h0, ⟨bf, hb1, hbf⟩, hK, hX, hPr⟩ := hC
  have h0 : h[0]? = some (.inr (0, [.ref 1, .ref 2, .ref 6, .ref 10, .long s])) := h0
  refine ar_go M_B_sent 1 _ 1 _ [some (.ref 0)] _ [.ref 0] rfl ?_
  refine ar_get M_B_sent rfl rfl h0 rfl ?_
  exact ar_R M_B_sent rfl rfl rfl rfl (⟨rfl, rfl⟩)
end
section
/-! The class: degree, factor; parcels -/
theorem rng_f {k n : Nat} (hk : n ≤ k) (hk2 : k < 2 ^ 31) : rng n (nI k) = false := by
  have b : am_c2 .ge (nI k) (nI n) = true := decide_eq_true ((nI_leI (by omega) hk2).mpr hk)
  simp [rng, b]
def prt (v : Int32) : Bool := am_c2 .eq v 0 || !am_c2 .ne v (nI 1)
theorem prt_ex {v : Int32} (h : prt v = true) : v = nI 0 ∨ v = nI 1 := by
  unfold prt at h
  rw [Bool.or_eq_true] at h
  rcases h with h | h
  · exact Or.inl (of_decide_eq_true h)
  · right
    rw [Bool.not_eq_true'] at h
    exact Decidable.not_not.mp (of_decide_eq_false h)
theorem prt_no {v : Int32} (h : prt v = false) : ¬ v = 0 ∧ ¬ v = 1 := by
  constructor
  · rintro rfl; exact absurd h (by decide)
  · rintro rfl; exact absurd h (by decide)
theorem c_B_isPart (X : am_X) (d : Nat) (h : am_H) (v : Int32) : ar Pg X d n_B_isPart 0 [some (.int v)] [] h (fun rr h' => rr = some (.int (bi (prt v))) ∧ h' = h) := by
  refine ar_go M_B_isPart 1 _ 1 _ [some (.int v)] _ [.int v] rfl ?_
  refine ar_if M_B_isPart rfl rfl (fun hc => ?_) (fun hc => ?_)
  · refine ar_go M_B_isPart 2 _ 14 _ [some (.int v)] _ [.int (nI 1)] rfl ?_
    exact ar_zret M_B_isPart rfl rfl (Or.inr rfl) (⟨by rw [show prt v = true by simp [prt, hc]]; rfl, rfl⟩)
  · refine ar_go M_B_isPart 2 _ 6 _ [some (.int v)] _ [.int (nI 1), .int v] rfl ?_
    refine ar_icmp M_B_isPart rfl rfl (fun hc2 => ?_) (fun hc2 => ?_)
    · refine ar_go M_B_isPart 1 _ 14 _ [some (.int v)] _ [.int (nI 0)] rfl ?_
      exact ar_zret M_B_isPart rfl rfl (Or.inl rfl) (⟨by rw [show prt v = false by simp [prt, hc, hc2]]; rfl, rfl⟩)
    · refine ar_go M_B_isPart 2 _ 14 _ [some (.int v)] _ [.int (nI 1)] rfl ?_
      exact ar_zret M_B_isPart rfl rfl (Or.inr rfl) (⟨by rw [show prt v = true by simp [prt, hc2]]; rfl, rfl⟩)
theorem c_B_degree (X : am_X) (d : Nat) (h : am_H) {B : Nat → Bk} {s : Int64} {u : Nat} {U : Nat → Nat} {l : Nat} {W : Nat → Nat} (hC : isCl h B s u U l W) (v : Int32) : ar Pg X (d + 1) n_B_degree 0 [some (.ref 0), some (.int v)] [] h (fun rr h' => rr = some (.int (dgR u l v)) ∧ h' = h) := by
  have hC0 := hC
  obtain ⟨h0, ⟨bf, hb1, hbf⟩, hK, hX, hPr⟩ := hC
  have h0 : h[0]? = some (.inr (0, [.ref 1, .ref 2, .ref 6, .ref 10, .long s])) := h0
  obtain ⟨U1, W1, hU1, hW1, hUe, hWe⟩ := hPr
  have hF := hX.1
  have hF0 := hF
  unfold isF at hF
  refine ar_go M_B_degree 1 _ 1 _ [some (.ref 0), some (.int v)] _ [.int v] rfl ?_
  refine ar_CS M_B_degree rfl rfl (Nat.le_of_ble_eq_true rfl) rfl rfl (Nat.le_of_ble_eq_true rfl) M_B_isPart (Nat.le_of_ble_eq_true rfl) (c_B_isPart X d _ v) (fun r1 h1 hq => ?_)
  obtain ⟨rfl, rfl⟩ := hq
  refine ⟨rfl, ?_⟩
  show ar Pg _ _ _ 4 [some (.ref 0), some (.int v)] [.int (bi (prt v))] _ _
  refine ar_if M_B_degree rfl rfl (fun hc => ?_) (fun hc => ?_)
  · have hc := bi_eq_t hc
    refine ar_go M_B_degree 1 _ 22 _ [some (.ref 0), some (.int v)] _ [.int (-1)] rfl ?_
    exact ar_R M_B_degree rfl rfl rfl rfl (⟨by have hp := prt_no hc; rw [dgR, if_neg hp.1, if_neg hp.2] <;> rfl, rfl⟩)
  · have hc := bi_eq_f hc
    rcases prt_ex hc with rfl | rfl
    · refine ar_go M_B_degree 1 _ 8 _ [some (.ref 0), some (.int (nI 0))] _ [.ref 0] rfl ?_
      refine ar_get M_B_degree rfl rfl h0 rfl ?_
      refine ar_go M_B_degree 1 _ 12 _ [some (.ref 0), some (.int (nI 0))] _ [.int (nI 0), .ref 10] rfl ?_
      refine ar_CV M_B_degree rfl rfl (Or.inl rfl) rfl rfl (Nat.le_of_ble_eq_true rfl) hF M_A_part (Nat.le_of_ble_eq_true rfl) (c_A_part0 X d _ hF0) (fun r1 h1 hq => ?_)
      obtain ⟨rfl, rfl⟩ := hq
      refine ⟨rfl, ?_⟩
      show ar Pg _ _ _ 15 [some (.ref 0), some (.int (nI 0))] [.ref 11] _ _
      refine ar_get M_B_degree rfl rfl hU1.2.1 rfl ?_
      refine ar_go M_B_degree 1 _ 22 _ [some (.ref 0), some (.int (nI 0))] _ [.int (nI u)] rfl ?_
      exact ar_R M_B_degree rfl rfl rfl rfl (⟨by show _ = some (Value.int (if (nI 0) = 0 then _ else _)); rw [if_pos (by decide)], rfl⟩)
    · refine ar_go M_B_degree 1 _ 8 _ [some (.ref 0), some (.int (nI 1))] _ [.ref 0] rfl ?_
      refine ar_get M_B_degree rfl rfl h0 rfl ?_
      refine ar_go M_B_degree 1 _ 12 _ [some (.ref 0), some (.int (nI 1))] _ [.int (nI 1), .ref 10] rfl ?_
      refine ar_CV M_B_degree rfl rfl (Or.inl rfl) rfl rfl (Nat.le_of_ble_eq_true rfl) hF M_A_part (Nat.le_of_ble_eq_true rfl) (c_A_part1 X d _ hF0) (fun r1 h1 hq => ?_)
      obtain ⟨rfl, rfl⟩ := hq
      refine ⟨rfl, ?_⟩
      show ar Pg _ _ _ 15 [some (.ref 0), some (.int (nI 1))] [.ref 13] _ _
      refine ar_get M_B_degree rfl rfl hW1.2.1 rfl ?_
      refine ar_go M_B_degree 1 _ 22 _ [some (.ref 0), some (.int (nI 1))] _ [.int (nI l)] rfl ?_
      exact ar_R M_B_degree rfl rfl rfl rfl (⟨by show _ = some (Value.int (if (nI 1) = 0 then _ else if (nI 1) = 1 then _ else _)); rw [if_neg (by decide), if_pos (by decide)], rfl⟩)
theorem fcR_0 {u l : Nat} {U W : Nat → Nat} {w : Int32} : fcR u U l W (nI 0) w = if rng (u + 1) w = true then nI (U w.toNatClampNeg) else -1 := by
  have h0 : nI 0 = 0 := by decide
  have h1 : ¬ nI 0 = 1 := by decide
  unfold fcR
  by_cases h : rng (u + 1) w = true
  · rw [if_pos ⟨h0, h⟩, if_pos h]
  · rw [if_neg (fun z => h z.2), if_neg (fun z => h1 z.1), if_neg h]
theorem fcR_1 {u l : Nat} {U W : Nat → Nat} {w : Int32} : fcR u U l W (nI 1) w = if rng (l + 1) w = true then nI (W w.toNatClampNeg) else -1 := by
  have h0 : ¬ nI 1 = 0 := by decide
  have h1 : nI 1 = 1 := by decide
  unfold fcR
  rw [if_neg (fun z => h0 z.1)]
  by_cases h : rng (l + 1) w = true
  · rw [if_pos ⟨h1, h⟩, if_pos h]
  · rw [if_neg (fun z => h z.2), if_neg h]
theorem c_B_factor (X : am_X) (d : Nat) (h : am_H) {B : Nat → Bk} {s : Int64} {u : Nat} {U : Nat → Nat} {l : Nat} {W : Nat → Nat} (hC : isCl h B s u U l W) (v w : Int32) : ar Pg X (d + 1) n_B_factor 0 [some (.ref 0), some (.int v), some (.int w)] [] h (fun rr h' => rr = some (.int (fcR u U l W v w)) ∧ h' = h) := by
  have hC0 := hC
  obtain ⟨h0, ⟨bf, hb1, hbf⟩, hK, hX, hPr⟩ := hC
  have h0 : h[0]? = some (.inr (0, [.ref 1, .ref 2, .ref 6, .ref 10, .long s])) := h0
  obtain ⟨U1, W1, hU1, hW1, hUe, hWe⟩ := hPr
  have hF := hX.1
  have hF0 := hF
  unfold isF at hF
  refine ar_go M_B_factor 1 _ 1 _ [some (.ref 0), some (.int v), some (.int w)] _ [.int v] rfl ?_
  refine ar_CS M_B_factor rfl rfl (Nat.le_of_ble_eq_true rfl) rfl rfl (Nat.le_of_ble_eq_true rfl) M_B_isPart (Nat.le_of_ble_eq_true rfl) (c_B_isPart X d _ v) (fun r1 h1 hq => ?_)
  obtain ⟨rfl, rfl⟩ := hq
  refine ⟨rfl, ?_⟩
  show ar Pg _ _ _ 4 [some (.ref 0), some (.int v), some (.int w)] [.int (bi (prt v))] _ _
  refine ar_if M_B_factor rfl rfl (fun hc => ?_) (fun hc => ?_)
  · have hc := bi_eq_t hc
    refine ar_go M_B_factor 1 _ 27 _ [some (.ref 0), some (.int v), some (.int w)] _ [.int (-1)] rfl ?_
    exact ar_R M_B_factor rfl rfl rfl rfl (⟨by have hp := prt_no hc; rw [fcR, if_neg (fun z => hp.1 z.1), if_neg (fun z => hp.2 z.1)] <;> rfl, rfl⟩)
  · have hc := bi_eq_f hc
    rcases prt_ex hc with rfl | rfl
    · have hd17 := hU1.1
      refine ar_go M_B_factor 1 _ 8 _ [some (.ref 0), some (.int (nI 0)), some (.int w)] _ [.int w] rfl ?_
      refine ar_if M_B_factor rfl rfl (fun hc2 => ?_) (fun hc2 => ?_)
      · refine ar_go M_B_factor 1 _ 27 _ [some (.ref 0), some (.int (nI 0)), some (.int w)] _ [.int (-1)] rfl ?_
        exact ar_R M_B_factor rfl rfl rfl rfl (⟨by rw [fcR_0, if_neg (by simp [rng, hc2])] <;> rfl, rfl⟩)
      · obtain ⟨k, hk, rfl⟩ := nn_ex hc2
        refine ar_go M_B_factor 2 _ 13 _ [some (.ref 0), some (.int (nI 0)), some (.int (nI k))] _ [.ref 0, .int (nI k)] rfl ?_
        refine ar_get M_B_factor rfl rfl h0 rfl ?_
        refine ar_go M_B_factor 1 _ 17 _ [some (.ref 0), some (.int (nI 0)), some (.int (nI k))] _ [.int (nI 0), .ref 10, .int (nI k)] rfl ?_
        refine ar_CV M_B_factor rfl rfl (Or.inl rfl) rfl rfl (Nat.le_of_ble_eq_true rfl) hF M_A_part (Nat.le_of_ble_eq_true rfl) (c_A_part0 X d _ hF0) (fun r1 h1 hq => ?_)
        obtain ⟨rfl, rfl⟩ := hq
        refine ⟨rfl, ?_⟩
        show ar Pg _ _ _ 20 [some (.ref 0), some (.int (nI 0)), some (.int (nI k))] [.ref 11, .int (nI k)] _ _
        refine ar_get M_B_factor rfl rfl hU1.2.1 rfl ?_
        refine ar_icmp M_B_factor rfl rfl (fun hc3 => ?_) (fun hc3 => ?_)
        · have hc3 := c2_le_t (a := k) (b := u) (by omega) (by omega) hc3
          have hlk := hU1.2.2.2 k (by omega)
          refine ar_go M_B_factor 1 _ 29 _ [some (.ref 0), some (.int (nI 0)), some (.int (nI k))] _ [.ref 0] rfl ?_
          refine ar_get M_B_factor rfl rfl h0 rfl ?_
          refine ar_go M_B_factor 1 _ 33 _ [some (.ref 0), some (.int (nI 0)), some (.int (nI k))] _ [.int (nI 0), .ref 10] rfl ?_
          refine ar_CV M_B_factor rfl rfl (Or.inl rfl) rfl rfl (Nat.le_of_ble_eq_true rfl) hF M_A_part (Nat.le_of_ble_eq_true rfl) (c_A_part0 X d _ hF0) (fun r1 h1 hq => ?_)
          obtain ⟨rfl, rfl⟩ := hq
          refine ⟨rfl, ?_⟩
          show ar Pg _ _ _ 36 [some (.ref 0), some (.int (nI 0)), some (.int (nI k))] [.ref 11] _ _
          refine ar_get M_B_factor rfl rfl hU1.2.1 rfl ?_
          refine ar_go M_B_factor 1 _ 40 _ [some (.ref 0), some (.int (nI 0)), some (.int (nI k))] _ [.int (nI k), .ref 12] rfl ?_
          refine ar_lald M_B_factor rfl hU1.2.2.1 (vp_in_nI (by omega) (by decide)) ?_
          rw [nI_clamp (n := k) (by omega)]
          refine ar_go M_B_factor 1 _ 42 _ [some (.ref 0), some (.int (nI 0)), some (.int (nI k))] _ [.int ((lN (U1 k)).toInt32)] rfl ?_
          refine ar_top (w := .int (nI (U1 k))) (congrArg Value.int (lN_i (U1 k))) ?_
          exact ar_R M_B_factor rfl rfl rfl rfl (⟨by rw [fcR_0, if_pos (rng_t (by omega) (by omega)), nI_clamp hk, hUe k (by omega)], rfl⟩)
        · have hc3 := c2_le_f (a := k) (b := u) (by omega) (by omega) hc3
          refine ar_go M_B_factor 1 _ 27 _ [some (.ref 0), some (.int (nI 0)), some (.int (nI k))] _ [.int (-1)] rfl ?_
          exact ar_R M_B_factor rfl rfl rfl rfl (⟨by rw [fcR_0, if_neg (by rw [rng_f (by omega) hk]; decide)] <;> rfl, rfl⟩)
    · have hd17 := hW1.1
      refine ar_go M_B_factor 1 _ 8 _ [some (.ref 0), some (.int (nI 1)), some (.int w)] _ [.int w] rfl ?_
      refine ar_if M_B_factor rfl rfl (fun hc2 => ?_) (fun hc2 => ?_)
      · refine ar_go M_B_factor 1 _ 27 _ [some (.ref 0), some (.int (nI 1)), some (.int w)] _ [.int (-1)] rfl ?_
        exact ar_R M_B_factor rfl rfl rfl rfl (⟨by rw [fcR_1, if_neg (by simp [rng, hc2])] <;> rfl, rfl⟩)
      · obtain ⟨k, hk, rfl⟩ := nn_ex hc2
        refine ar_go M_B_factor 2 _ 13 _ [some (.ref 0), some (.int (nI 1)), some (.int (nI k))] _ [.ref 0, .int (nI k)] rfl ?_
        refine ar_get M_B_factor rfl rfl h0 rfl ?_
        refine ar_go M_B_factor 1 _ 17 _ [some (.ref 0), some (.int (nI 1)), some (.int (nI k))] _ [.int (nI 1), .ref 10, .int (nI k)] rfl ?_
        refine ar_CV M_B_factor rfl rfl (Or.inl rfl) rfl rfl (Nat.le_of_ble_eq_true rfl) hF M_A_part (Nat.le_of_ble_eq_true rfl) (c_A_part1 X d _ hF0) (fun r1 h1 hq => ?_)
        obtain ⟨rfl, rfl⟩ := hq
        refine ⟨rfl, ?_⟩
        show ar Pg _ _ _ 20 [some (.ref 0), some (.int (nI 1)), some (.int (nI k))] [.ref 13, .int (nI k)] _ _
        refine ar_get M_B_factor rfl rfl hW1.2.1 rfl ?_
        refine ar_icmp M_B_factor rfl rfl (fun hc3 => ?_) (fun hc3 => ?_)
        · have hc3 := c2_le_t (a := k) (b := l) (by omega) (by omega) hc3
          have hlk := hW1.2.2.2 k (by omega)
          refine ar_go M_B_factor 1 _ 29 _ [some (.ref 0), some (.int (nI 1)), some (.int (nI k))] _ [.ref 0] rfl ?_
          refine ar_get M_B_factor rfl rfl h0 rfl ?_
          refine ar_go M_B_factor 1 _ 33 _ [some (.ref 0), some (.int (nI 1)), some (.int (nI k))] _ [.int (nI 1), .ref 10] rfl ?_
          refine ar_CV M_B_factor rfl rfl (Or.inl rfl) rfl rfl (Nat.le_of_ble_eq_true rfl) hF M_A_part (Nat.le_of_ble_eq_true rfl) (c_A_part1 X d _ hF0) (fun r1 h1 hq => ?_)
          obtain ⟨rfl, rfl⟩ := hq
          refine ⟨rfl, ?_⟩
          show ar Pg _ _ _ 36 [some (.ref 0), some (.int (nI 1)), some (.int (nI k))] [.ref 13] _ _
          refine ar_get M_B_factor rfl rfl hW1.2.1 rfl ?_
          refine ar_go M_B_factor 1 _ 40 _ [some (.ref 0), some (.int (nI 1)), some (.int (nI k))] _ [.int (nI k), .ref 14] rfl ?_
          refine ar_lald M_B_factor rfl hW1.2.2.1 (vp_in_nI (by omega) (by decide)) ?_
          rw [nI_clamp (n := k) (by omega)]
          refine ar_go M_B_factor 1 _ 42 _ [some (.ref 0), some (.int (nI 1)), some (.int (nI k))] _ [.int ((lN (W1 k)).toInt32)] rfl ?_
          refine ar_top (w := .int (nI (W1 k))) (congrArg Value.int (lN_i (W1 k))) ?_
          exact ar_R M_B_factor rfl rfl rfl rfl (⟨by rw [fcR_1, if_pos (rng_t (by omega) (by omega)), nI_clamp hk, hWe k (by omega)], rfl⟩)
        · have hc3 := c2_le_f (a := k) (b := l) (by omega) (by omega) hc3
          refine ar_go M_B_factor 1 _ 27 _ [some (.ref 0), some (.int (nI 1)), some (.int (nI k))] _ [.int (-1)] rfl ?_
          exact ar_R M_B_factor rfl rfl rfl rfl (⟨by rw [fcR_1, if_neg (by rw [rng_f (by omega) hk]; decide)] <;> rfl, rfl⟩)
theorem isCl.snt {h h1 : am_H} {B : Nat → Bk} {s : Int64} {u : Nat} {U : Nat → Nat} {l : Nat} {W : Nat → Nat} {s2 : Int64} (H : isCl h B s u U l W) (hf : fr [0] h h1) (h0 : isB0 h1 s2) : isCl h1 B s2 u U l W :=
  ⟨h0, H.2.1.mv hf (by simp), H.2.2.1.mv hf (fun k _ _ => by simp; omega), H.2.2.2.1.mv hf (fun k _ _ => by simp; omega) (fun k _ _ => by simp; omega), H.2.2.2.2.mv hf (fun k _ _ => by simp; omega)⟩
theorem isCl.par1 {h h1 : am_H} {B : Nat → Bk} {s : Int64} {u : Nat} {U : Nat → Nat} {l : Nat} {W : Nat → Nat} {o : Bk} (H : isCl h B s u U l W) (hf : fr [2, 2 + 1, 2 + 2, 2 + 3] h h1) (hR : isR h1 2 o) : isCl h1 B s u U l W := by
  obtain ⟨h0, h1', hK, hX, hP⟩ := H
  refine ⟨hf.at h0 (by simp), h1'.mv hf (by simp), hK.mv hf (fun k _ _ => by simp; omega), ?_, hP.mv hf (fun k _ _ => by simp; omega)⟩
  obtain ⟨a, b, ⟨l2, c⟩, ⟨k, A, d⟩, ⟨k2, A2, e⟩, ⟨ro, c0, M, uk, g⟩, ⟨SA, i, i2⟩, SB, j, j2⟩ := hX
  exact ⟨hf.at a (by simp), ⟨o, hR⟩, ⟨l2, c.fr hf (by simp) (by simp) (by simp) (by simp)⟩, ⟨k, A, d.fr hf (by simp) (by simp)⟩, ⟨k2, A2, e.fr hf (by simp) (by simp)⟩, ⟨ro, c0, M, uk, g.mv hf (fun k _ _ => by simp; omega)⟩, ⟨SA, hf.at i (by simp), i2⟩, SB, hf.at j (by simp), j2⟩
theorem isCl.par2 {h h1 : am_H} {B : Nat → Bk} {s : Int64} {u : Nat} {U : Nat → Nat} {l : Nat} {W : Nat → Nat} {o : Bk} (H : isCl h B s u U l W) (hf : fr [6, 6 + 1, 6 + 2, 6 + 3] h h1) (hR : isR h1 6 o) : isCl h1 B s u U l W := by
  obtain ⟨h0, h1', hK, hX, hP⟩ := H
  refine ⟨hf.at h0 (by simp), h1'.mv hf (by simp), hK.mv hf (fun k _ _ => by simp; omega), ?_, hP.mv hf (fun k _ _ => by simp; omega)⟩
  obtain ⟨a, ⟨l2, c⟩, b, ⟨k, A, d⟩, ⟨k2, A2, e⟩, ⟨ro, c0, M, uk, g⟩, ⟨SA, i, i2⟩, SB, j, j2⟩ := hX
  exact ⟨hf.at a (by simp), ⟨l2, c.fr hf (by simp) (by simp) (by simp) (by simp)⟩, ⟨o, hR⟩, ⟨k, A, d.fr hf (by simp) (by simp)⟩, ⟨k2, A2, e.fr hf (by simp) (by simp)⟩, ⟨ro, c0, M, uk, g.mv hf (fun k _ _ => by simp; omega)⟩, ⟨SA, hf.at i (by simp), i2⟩, SB, hf.at j (by simp), j2⟩
theorem fil_V {P : Nat → Bool} {o : Bk} (hV : bkV o) : ∀ n, n ≤ o.length → bkV (fil P o n)
  | 0, _ => fun i hi => absurd hi (Nat.not_lt_zero _)
  | n + 1, hn => by
    have ih := fil_V (P := P) hV n (by omega)
    by_cases h : P n = true
    · rw [fil_t h]
      intro i hi
      rw [List.length_append, List.length_singleton] at hi
      by_cases e : i = (fil P o n).length
      · subst e
        rw [(app_wl _ _).1]
        exact hV n (by omega)
      · rw [(app_wd (by omega)).1]
        exact ih i (by omega)
    · rw [fil_f (by simpa using h)]
      exact ih
theorem stA_V {l o : Bk} (hl : l.length ≤ 64) (hS : bkS l) (hV : bkV l) (hV2 : bkV o) : ∀ i, i ≤ o.length → bkV (stA l o i)
  | 0, _ => hV
  | i + 1, h => stR_V (stA_ok hl hS hV.W hV2.W i (by omega)).2.1 (stA_V hl hS hV hV2 i (by omega)) (hV2 i (by omega))
def kn (p l : Bk) : Bk := fil (knB p l) p p.length
def ovf (l k : Bk) : Bool := decide (64 < l.length + cntB (nwB l k) k.length)
def dlF (la lb p1 p2 : Bk) : Bool := ovf la (kn p1 la) || ovf lb (kn p2 lb)
def dlR (la lb p1 p2 : Bk) : Int32 := if dlF la lb p1 p2 = true then -3 else nI ((kn p1 la).length + (kn p2 lb).length)
def dlB (B : Nat → Bk) (a b : Nat) (p1 p2 : Bk) : Nat → Bk := if dlF (B a) (B b) p1 p2 = true then B else updB (updB B a (stA (B a) (kn p1 (B a)) (kn p1 (B a)).length)) b (stA (B b) (kn p2 (B b)) (kn p2 (B b)).length)
theorem par1_cl : ∀ k, k ∈ [2, 2 + 1, 2 + 2, 2 + 3] → k ∈ clL := by decide
theorem par2_cl : ∀ k, k ∈ [6, 6 + 1, 6 + 2, 6 + 3] → k ∈ clL := by decide
theorem c_B_deliverParcels (X : am_X) (d : Nat) (h : am_H) {B : Nat → Bk} {s : Int64} {u : Nat} {U : Nat → Nat} {l : Nat} {W : Nat → Nat} (hC : isCl h B s u U l W) {a b : Nat} {p1 p2 : Bk} (ha : a < 4) (hb : b < 4) (hne : a ≠ b) (hP1 : isR h 2 p1) (hP2 : isR h 6 p2) (hV1 : bkV p1) (hV2 : bkV p2) : ar Pg X (d + 1 + 1 + 1) n_B_deliverParcels 0 [some (.ref 0), some (.ref (40 + 4 * a)), some (.ref (40 + 4 * b))] [] h (fun rr h' => rr = some (.int (dlR (B a) (B b) p1 p2)) ∧ isCl h' (dlB B a b p1 p2) s u U l W ∧ fr clL h h') := by
  obtain ⟨hRa, hSa, hVa⟩ := hC.2.2.1 a ha
  obtain ⟨hRb, hSb, hVb⟩ := hC.2.2.1 b hb
  have hWa := hVa.W
  have hWb := hVb.W
  refine ar_go M_B_deliverParcels 1 _ 1 _ [some (.ref 0), some (.ref (40 + 4 * a)), some (.ref (40 + 4 * b))] _ [.ref 0] rfl ?_
  refine ar_get M_B_deliverParcels rfl rfl hC.1 rfl ?_
  refine ar_go M_B_deliverParcels 1 _ 5 _ [some (.ref 0), some (.ref (40 + 4 * a)), some (.ref (40 + 4 * b))] _ [.ref (40 + 4 * a), .ref 2] rfl ?_
  refine ar_CV M_B_deliverParcels rfl rfl (Or.inl rfl) rfl rfl (Nat.le_of_ble_eq_true rfl) hP1.2.1 M_R_keepNewsFor (Nat.le_of_ble_eq_true rfl) (c_R_keepNewsFor X (d + 1) _ (r := 2) (s := 40 + 4 * a) hRa hP1.1 (by omega) (by omega) (by omega) hSa hWa hV1.W hP1) (fun r1 h2 hq => ?_)
  obtain ⟨rfl, hf1, hP1⟩ := hq
  refine ⟨hf1.1, ?_⟩
  have hC := hC.par1 hf1 hP1
  have hP2 := hP2.fr hf1 (by simp) (by simp) (by simp) (by simp)
  have hRb := (hC.2.2.1 b hb).1
  show ar Pg _ _ _ 8 [some (.ref 0), some (.ref (40 + 4 * a)), some (.ref (40 + 4 * b))] [] _ _
  refine ar_go M_B_deliverParcels 1 _ 9 _ [some (.ref 0), some (.ref (40 + 4 * a)), some (.ref (40 + 4 * b))] _ [.ref 0] rfl ?_
  refine ar_get M_B_deliverParcels rfl rfl hC.1 rfl ?_
  refine ar_go M_B_deliverParcels 1 _ 13 _ [some (.ref 0), some (.ref (40 + 4 * a)), some (.ref (40 + 4 * b))] _ [.ref (40 + 4 * b), .ref 6] rfl ?_
  refine ar_CV M_B_deliverParcels rfl rfl (Or.inl rfl) rfl rfl (Nat.le_of_ble_eq_true rfl) hP2.2.1 M_R_keepNewsFor (Nat.le_of_ble_eq_true rfl) (c_R_keepNewsFor X (d + 1) _ (r := 6) (s := 40 + 4 * b) hRb hP2.1 (by omega) (by omega) (by omega) hSb hWb hV2.W hP2) (fun r1 h3 hq => ?_)
  obtain ⟨rfl, hf2, hP2⟩ := hq
  refine ⟨hf2.1, ?_⟩
  have hC := hC.par2 hf2 hP2
  have hP1 := hP1.fr hf2 (by simp) (by simp) (by simp) (by simp)
  have hRa := (hC.2.2.1 a ha).1
  have hRb := (hC.2.2.1 b hb).1
  have hF2 : fr clL h h3 := (hf1.mono par1_cl).tr (hf2.mono par2_cl) (fun _ z => z) (fun _ z => z)
  have hVk1 : bkV (kn p1 (B a)) := fil_V hV1 _ (Nat.le_refl _)
  have hVk2 : bkV (kn p2 (B b)) := fil_V hV2 _ (Nat.le_refl _)
  change isR _ 2 (kn p1 (B a)) at hP1
  change isR _ 6 (kn p2 (B b)) at hP2
  show ar Pg _ _ _ 16 [some (.ref 0), some (.ref (40 + 4 * a)), some (.ref (40 + 4 * b))] [] _ _
  have c1 := cntB_le (nwB (B a) (kn p1 (B a))) (kn p1 (B a)).length
  have c2 := cntB_le (nwB (B b) (kn p2 (B b))) (kn p2 (B b)).length
  have l1 := hP1.1
  have l2 := hP2.1
  have l3 := hRa.1
  have l4 := hRb.1
  refine ar_go M_B_deliverParcels 2 _ 18 _ [some (.ref 0), some (.ref (40 + 4 * a)), some (.ref (40 + 4 * b))] _ [.ref 0, .ref (40 + 4 * a)] rfl ?_
  refine ar_get M_B_deliverParcels rfl rfl hC.1 rfl ?_
  refine ar_CV M_B_deliverParcels rfl rfl (Or.inl rfl) rfl rfl (Nat.le_of_ble_eq_true rfl) (hC.2.2.1 a ha).1.2.1 M_R_countWith (Nat.le_of_ble_eq_true rfl) (c_R_countWith X (d + 1) _ hRa hP1 (by omega) (by omega) hSa hWa hVk1.W) (fun r1 h1 hq => ?_)
  obtain ⟨rfl, rfl⟩ := hq
  refine ⟨rfl, ?_⟩
  show ar Pg _ _ _ 24 [some (.ref 0), some (.ref (40 + 4 * a)), some (.ref (40 + 4 * b))] [.int (nI ((B a).length + cntB (nwB (B a) (kn p1 (B a))) (kn p1 (B a)).length))] _ _
  refine ar_go M_B_deliverParcels 1 _ 26 _ [some (.ref 0), some (.ref (40 + 4 * a)), some (.ref (40 + 4 * b))] _ [.int (nI 64), .int (nI ((B a).length + cntB (nwB (B a) (kn p1 (B a))) (kn p1 (B a)).length))] rfl ?_
  refine ar_icmp M_B_deliverParcels rfl rfl (fun hc => ?_) (fun hc => ?_)
  · have hc := c2_gt_t (a := ((B a).length + cntB (nwB (B a) (kn p1 (B a))) (kn p1 (B a)).length)) (b := 64) (by omega) (by omega) hc
    have hff : dlF (B a) (B b) p1 p2 = true := by unfold dlF; rw [show ovf (B a) (kn p1 (B a)) = true from decide_eq_true hc, Bool.true_or]
    refine ar_go M_B_deliverParcels 1 _ 44 _ [some (.ref 0), some (.ref (40 + 4 * a)), some (.ref (40 + 4 * b))] _ [.int (-3)] rfl ?_
    exact ar_R M_B_deliverParcels rfl rfl rfl rfl (⟨by rw [dlR, if_pos hff] <;> rfl, by rw [dlB, if_pos hff]; exact hC, hF2⟩)
  · have hc := c2_gt_f (a := ((B a).length + cntB (nwB (B a) (kn p1 (B a))) (kn p1 (B a)).length)) (b := 64) (by omega) (by omega) hc
    have ho1 : ovf (B a) (kn p1 (B a)) = false := decide_eq_false (by omega)
    refine ar_go M_B_deliverParcels 2 _ 31 _ [some (.ref 0), some (.ref (40 + 4 * a)), some (.ref (40 + 4 * b))] _ [.ref 0, .ref (40 + 4 * b)] rfl ?_
    refine ar_get M_B_deliverParcels rfl rfl hC.1 rfl ?_
    refine ar_CV M_B_deliverParcels rfl rfl (Or.inl rfl) rfl rfl (Nat.le_of_ble_eq_true rfl) (hC.2.2.1 b hb).1.2.1 M_R_countWith (Nat.le_of_ble_eq_true rfl) (c_R_countWith X (d + 1) _ hRb hP2 (by omega) (by omega) hSb hWb hVk2.W) (fun r1 h1 hq => ?_)
    obtain ⟨rfl, rfl⟩ := hq
    refine ⟨rfl, ?_⟩
    show ar Pg _ _ _ 37 [some (.ref 0), some (.ref (40 + 4 * a)), some (.ref (40 + 4 * b))] [.int (nI ((B b).length + cntB (nwB (B b) (kn p2 (B b))) (kn p2 (B b)).length))] _ _
    refine ar_go M_B_deliverParcels 1 _ 39 _ [some (.ref 0), some (.ref (40 + 4 * a)), some (.ref (40 + 4 * b))] _ [.int (nI 64), .int (nI ((B b).length + cntB (nwB (B b) (kn p2 (B b))) (kn p2 (B b)).length))] rfl ?_
    refine ar_icmp M_B_deliverParcels rfl rfl (fun hc2 => ?_) (fun hc2 => ?_)
    · have hc2 := c2_le_t (a := ((B b).length + cntB (nwB (B b) (kn p2 (B b))) (kn p2 (B b)).length)) (b := 64) (by omega) (by omega) hc2
      have ho2 : ovf (B b) (kn p2 (B b)) = false := decide_eq_false (by omega)
      have hff : dlF (B a) (B b) p1 p2 = false := by unfold dlF; rw [ho1, ho2]; rfl
      refine ar_go M_B_deliverParcels 2 _ 47 _ [some (.ref 0), some (.ref (40 + 4 * a)), some (.ref (40 + 4 * b))] _ [.ref 0, .ref (40 + 4 * a)] rfl ?_
      refine ar_get M_B_deliverParcels rfl rfl hC.1 rfl ?_
      refine ar_CV M_B_deliverParcels rfl rfl (Or.inl rfl) rfl rfl (Nat.le_of_ble_eq_true rfl) (hC.2.2.1 a ha).1.2.1 M_R_storeAll (Nat.le_of_ble_eq_true rfl) (c_R_storeAll X d _ hRa hP1 (by omega) (by omega) (by omega) hSa hWa hVk1.W) (fun r1 h4 hq => ?_)
      obtain ⟨rfl, hf3, hRa⟩ := hq
      refine ⟨hf3.1, ?_⟩
      obtain ⟨q1, q2, q3⟩ := stA_ok l3 hSa hWa hVk1.W (kn p1 (B a)).length (Nat.le_refl _)
      have hC := hC.bank ha hf3 hRa q2 (stA_V l3 hSa hVa hVk1 _ (Nat.le_refl _))
      have hP1 := hP1.fr hf3 (by simp; omega) (by simp; omega) (by simp; omega) (by simp; omega)
      have hP2 := hP2.fr hf3 (by simp; omega) (by simp; omega) (by simp; omega) (by simp; omega)
      have hRb := hRb.fr hf3 (by simp; omega) (by simp; omega) (by simp; omega) (by simp; omega)
      show ar Pg _ _ _ 53 [some (.ref 0), some (.ref (40 + 4 * a)), some (.ref (40 + 4 * b))] [] _ _
      refine ar_go M_B_deliverParcels 2 _ 55 _ [some (.ref 0), some (.ref (40 + 4 * a)), some (.ref (40 + 4 * b))] _ [.ref 0, .ref (40 + 4 * b)] rfl ?_
      refine ar_get M_B_deliverParcels rfl rfl hC.1 rfl ?_
      refine ar_CV M_B_deliverParcels rfl rfl (Or.inl rfl) rfl rfl (Nat.le_of_ble_eq_true rfl) hRb.2.1 M_R_storeAll (Nat.le_of_ble_eq_true rfl) (c_R_storeAll X d _ hRb hP2 (by omega) (by omega) (by omega) hSb hWb hVk2.W) (fun r1 h5 hq => ?_)
      obtain ⟨rfl, hf4, hRb⟩ := hq
      refine ⟨hf4.1, ?_⟩
      obtain ⟨q1, q2, q3⟩ := stA_ok l4 hSb hWb hVk2.W (kn p2 (B b)).length (Nat.le_refl _)
      have hC := hC.bank hb hf4 hRb q2 (stA_V l4 hSb hVb hVk2 _ (Nat.le_refl _))
      have hP1 := hP1.fr hf4 (by simp; omega) (by simp; omega) (by simp; omega) (by simp; omega)
      have hP2 := hP2.fr hf4 (by simp; omega) (by simp; omega) (by simp; omega) (by simp; omega)
      show ar Pg _ _ _ 61 [some (.ref 0), some (.ref (40 + 4 * a)), some (.ref (40 + 4 * b))] [] _ _
      refine ar_go M_B_deliverParcels 1 _ 62 _ [some (.ref 0), some (.ref (40 + 4 * a)), some (.ref (40 + 4 * b))] _ [.ref 0] rfl ?_
      refine ar_get M_B_deliverParcels rfl rfl hC.1 rfl ?_
      refine ar_get M_B_deliverParcels rfl rfl hP1.2.1 rfl ?_
      refine ar_go M_B_deliverParcels 1 _ 69 _ [some (.ref 0), some (.ref (40 + 4 * a)), some (.ref (40 + 4 * b))] _ [.ref 0, .int (nI ((kn p1 (B a)).length))] rfl ?_
      refine ar_get M_B_deliverParcels rfl rfl hC.1 rfl ?_
      refine ar_get M_B_deliverParcels rfl rfl hP2.2.1 rfl ?_
      refine ar_go M_B_deliverParcels 1 _ 76 _ [some (.ref 0), some (.ref (40 + 4 * a)), some (.ref (40 + 4 * b))] _ [.int (nI ((kn p1 (B a)).length) + nI ((kn p2 (B b)).length))] rfl ?_
      refine ar_top (w := .int (nI (((kn p1 (B a)).length) + ((kn p2 (B b)).length)))) (congrArg Value.int (nI_add ((kn p1 (B a)).length) ((kn p2 (B b)).length))) ?_
      exact ar_R M_B_deliverParcels rfl rfl rfl rfl (⟨by rw [dlR, if_neg (by rw [hff]; decide)] <;> rfl, by rw [dlB, if_neg (by rw [hff]; decide)]; exact hC, (hF2.tr (hf3.mono (bank_cl ha)) (fun _ z => z) (fun _ z => z)).tr (hf4.mono (bank_cl hb)) (fun _ z => z) (fun _ z => z)⟩)
    · have hc2 := c2_le_f (a := ((B b).length + cntB (nwB (B b) (kn p2 (B b))) (kn p2 (B b)).length)) (b := 64) (by omega) (by omega) hc2
      have hff : dlF (B a) (B b) p1 p2 = true := by unfold dlF; rw [show ovf (B b) (kn p2 (B b)) = true from decide_eq_true hc2, Bool.or_true]
      refine ar_go M_B_deliverParcels 1 _ 44 _ [some (.ref 0), some (.ref (40 + 4 * a)), some (.ref (40 + 4 * b))] _ [.int (-3)] rfl ?_
      exact ar_R M_B_deliverParcels rfl rfl rfl rfl (⟨by rw [dlR, if_pos hff] <;> rfl, by rw [dlB, if_pos hff]; exact hC, hF2⟩)
def alB (o : Bk) : Bk := fil (fun _ => true) o o.length
theorem c_B_runListing (X : am_X) (d : Nat) (h : am_H) {B : Nat → Bk} {s : Int64} {u : Nat} {U : Nat → Nat} {l : Nat} {W : Nat → Nat} (hC : isCl h B s u U l W) {a b : Nat} (ha : a < 4) (hb : b < 4) (hne : a ≠ b) : ar Pg X (d + 1 + 1 + 1 + 1) n_B_runListing 0 [some (.ref 0), some (.ref (40 + 4 * a)), some (.ref (40 + 4 * b))] [] h (fun rr h' => rr = some (.int (dlR (B a) (B b) (alB (B b)) (alB (B a)))) ∧ isCl h' (dlB B a b (alB (B b)) (alB (B a))) (s + lN (2 * ((B a).length + (B b).length))) u U l W ∧ fr clL h h') := by
  obtain ⟨hRa, hSa, hVa⟩ := hC.2.2.1 a ha
  obtain ⟨hRb, hSb, hVb⟩ := hC.2.2.1 b hb
  have l3 := hRa.1
  have l4 := hRb.1
  obtain ⟨_, ⟨l1, hP1⟩, ⟨l2, hP2⟩, _⟩ := hC.2.2.2.1
  refine ar_go M_B_runListing 2 _ 2 _ [some (.ref 0), some (.ref (40 + 4 * a)), some (.ref (40 + 4 * b))] _ [.ref 0, .ref 0] rfl ?_
  refine ar_get M_B_runListing rfl rfl hC.1 rfl ?_
  refine ar_go M_B_runListing 2 _ 7 _ [some (.ref 0), some (.ref (40 + 4 * a)), some (.ref (40 + 4 * b))] _ [.ref (40 + 4 * a), .int (nI 2), .long s, .ref 0] rfl ?_
  refine ar_get M_B_runListing rfl rfl (hC.2.2.1 a ha).1.2.1 rfl ?_
  refine ar_go M_B_runListing 1 _ 11 _ [some (.ref 0), some (.ref (40 + 4 * a)), some (.ref (40 + 4 * b))] _ [.ref (40 + 4 * b), .int (nI ((B a).length)), .int (nI 2), .long s, .ref 0] rfl ?_
  refine ar_get M_B_runListing rfl rfl (hC.2.2.1 b hb).1.2.1 rfl ?_
  refine ar_go M_B_runListing 1 _ 15 _ [some (.ref 0), some (.ref (40 + 4 * a)), some (.ref (40 + 4 * b))] _ [.int (nI ((B a).length) + nI ((B b).length)), .int (nI 2), .long s, .ref 0] rfl ?_
  refine ar_top (w := .int (nI (((B a).length) + ((B b).length)))) (congrArg Value.int (nI_add ((B a).length) ((B b).length))) ?_
  refine ar_go M_B_runListing 1 _ 16 _ [some (.ref 0), some (.ref (40 + 4 * a)), some (.ref (40 + 4 * b))] _ [.int (nI 2 * nI (((B a).length) + ((B b).length))), .long s, .ref 0] rfl ?_
  refine ar_top (w := .int (nI (2 * (((B a).length) + ((B b).length))))) (congrArg Value.int (pk_mul 2 (((B a).length) + ((B b).length)))) ?_
  refine ar_go M_B_runListing 1 _ 17 _ [some (.ref 0), some (.ref (40 + 4 * a)), some (.ref (40 + 4 * b))] _ [.long ((nI (2 * (((B a).length) + ((B b).length)))).toInt64), .long s, .ref 0] rfl ?_
  refine ar_top (w := .long (lN (2 * (((B a).length) + ((B b).length))))) (congrArg Value.long (nI_l (by omega))) ?_
  refine ar_go M_B_runListing 1 _ 18 _ [some (.ref 0), some (.ref (40 + 4 * a)), some (.ref (40 + 4 * b))] _ [.long (s + lN (2 * (((B a).length) + ((B b).length)))), .ref 0] rfl ?_
  have h0 : h[0]? = some (.inr (0, [.ref 1, .ref 2, .ref 6, .ref 10, .long s])) := hC.1
  refine ar_put M_B_runListing rfl rfl h0 (Nat.le_of_ble_eq_true rfl) rfl (Nat.le_of_ble_eq_true rfl) (fun h2 hf he => ?_)
  have h0 : h2[0]? = some (.inr (0, [.ref 1, .ref 2, .ref 6, .ref 10, .long (s + lN (2 * (((B a).length) + ((B b).length))))])) := he
  have hf0 := hf
  have hC := hC.snt hf0 h0
  have hP1 := hP1.fr hf0 (by simp) (by simp) (by simp) (by simp)
  have hRb := (hC.2.2.1 b hb).1
  refine ar_go M_B_runListing 1 _ 22 _ [some (.ref 0), some (.ref (40 + 4 * a)), some (.ref (40 + 4 * b))] _ [.ref 0] rfl ?_
  refine ar_get M_B_runListing rfl rfl hC.1 rfl ?_
  refine ar_go M_B_runListing 1 _ 26 _ [some (.ref 0), some (.ref (40 + 4 * a)), some (.ref (40 + 4 * b))] _ [.ref (40 + 4 * b), .ref 2] rfl ?_
  refine ar_CV M_B_runListing rfl rfl (Or.inl rfl) rfl rfl (Nat.le_of_ble_eq_true rfl) hP1.2.1 M_R_becomeAllOf (Nat.le_of_ble_eq_true rfl) (c_R_becomeAllOf X (d + 1 + 1) _ (r := 2) (s := 40 + 4 * b) hRb (by omega) (by omega) (by omega) hP1) (fun r1 h3 hq => ?_)
  obtain ⟨rfl, hf1, hP1⟩ := hq
  refine ⟨hf1.1, ?_⟩
  have hC := hC.par1 hf1 hP1
  have hRa := (hC.2.2.1 a ha).1
  have hP2 := (hP2.fr hf0 (by simp) (by simp) (by simp) (by simp)).fr hf1 (by simp) (by simp) (by simp) (by simp)
  show ar Pg _ _ _ 29 [some (.ref 0), some (.ref (40 + 4 * a)), some (.ref (40 + 4 * b))] [] _ _
  refine ar_go M_B_runListing 1 _ 30 _ [some (.ref 0), some (.ref (40 + 4 * a)), some (.ref (40 + 4 * b))] _ [.ref 0] rfl ?_
  refine ar_get M_B_runListing rfl rfl hC.1 rfl ?_
  refine ar_go M_B_runListing 1 _ 34 _ [some (.ref 0), some (.ref (40 + 4 * a)), some (.ref (40 + 4 * b))] _ [.ref (40 + 4 * a), .ref 6] rfl ?_
  refine ar_CV M_B_runListing rfl rfl (Or.inl rfl) rfl rfl (Nat.le_of_ble_eq_true rfl) hP2.2.1 M_R_becomeAllOf (Nat.le_of_ble_eq_true rfl) (c_R_becomeAllOf X (d + 1 + 1) _ (r := 6) (s := 40 + 4 * a) hRa (by omega) (by omega) (by omega) hP2) (fun r1 h4 hq => ?_)
  obtain ⟨rfl, hf2, hP2⟩ := hq
  refine ⟨hf2.1, ?_⟩
  have hC := hC.par2 hf2 hP2
  have hP1 := hP1.fr hf2 (by simp) (by simp) (by simp) (by simp)
  show ar Pg _ _ _ 37 [some (.ref 0), some (.ref (40 + 4 * a)), some (.ref (40 + 4 * b))] [] _ _
  refine ar_go M_B_runListing 3 _ 40 _ [some (.ref 0), some (.ref (40 + 4 * a)), some (.ref (40 + 4 * b))] _ [.ref (40 + 4 * b), .ref (40 + 4 * a), .ref 0] rfl ?_
  refine ar_CV M_B_runListing rfl rfl (Or.inl rfl) rfl rfl (Nat.le_of_ble_eq_true rfl) hC.1 M_B_deliverParcels (Nat.le_of_ble_eq_true rfl) (c_B_deliverParcels X d _ hC ha hb hne hP1 hP2 (fil_V hVb _ (Nat.le_refl _)) (fil_V hVa _ (Nat.le_refl _))) (fun r1 h5 hq => ?_)
  obtain ⟨rfl, hC5, hf5⟩ := hq
  refine ⟨hf5.1, ?_⟩
  show ar Pg _ _ _ 43 [some (.ref 0), some (.ref (40 + 4 * a)), some (.ref (40 + 4 * b))] [.int (dlR (B a) (B b) (alB (B b)) (alB (B a)))] _ _
  exact ar_R M_B_runListing rfl rfl rfl rfl (⟨rfl, hC5, (((hf0.mono (by decide)).tr (hf1.mono par1_cl) (fun _ z => z) (fun _ z => z)).tr (hf2.mono par2_cl) (fun _ z => z) (fun _ z => z)).tr hf5 (fun _ z => z) (fun _ z => z)⟩)
end
section
/-! The class: exchange, settle, spread; what its find and reduce answer is O -/
def gB (l : Bk) : Prop := l.length ≤ 64 ∧ bkS l ∧ bkV l
def fdY (m : Nat) (la lb : Bk) (U0 W0 : Nat → Nat) : Prop := la.length ≤ lb.length + m ∧ lb.length ≤ la.length + m ∧ ∃ (M : Nat → Nat → Nat) (uk : Nat → Option Nat) (SA SB A0 C0 : Nat → Nat), (∀ i, i < 16 → lt17 (M i)) ∧ lt18 SA ∧ lt18 SB ∧ lt17 A0 ∧ lt17 C0 ∧ fdOk (fdG M uk (tk SA la (m + 2)) (tk SB lb (m + 2)) m la.length lb.length) (nN m la.length lb.length) = true ∧ U0 = fdP A0 (fdG M uk (tk SA la (m + 2)) (tk SB lb (m + 2)) m la.length lb.length) (nN m la.length lb.length) 0 (uN m la.length lb.length) ∧ W0 = fdP C0 (fdG M uk (tk SA la (m + 2)) (tk SB lb (m + 2)) m la.length lb.length) (nN m la.length lb.length) (uN m la.length lb.length) (lN2 m la.length lb.length)
def exN (m : Nat) (la lb : Bk) : Prop := (lb.length + m < la.length ∨ la.length + m < lb.length) ∨ (la.length ≤ lb.length + m ∧ lb.length ≤ la.length + m ∧ ∃ (M : Nat → Nat → Nat) (uk : Nat → Option Nat) (SA SB : Nat → Nat), (∀ i, i < 16 → lt17 (M i)) ∧ lt18 SA ∧ lt18 SB ∧ fdOk (fdG M uk (tk SA la (m + 2)) (tk SB lb (m + 2)) m la.length lb.length) (nN m la.length lb.length) = false)
def rdY (u : Nat) (U : Nat → Nat) (l : Nat) (W : Nat → Nat) (u' : Nat) (U' : Nat → Nat) (l' : Nat) (W' : Nat → Nat) : Prop := ∃ (G0 S0 : Nat → Nat) (q : Nat) (G : Nat → Nat), (∀ i, i < 17 → G0 i = U i) ∧ (∀ i, i < 17 → S0 i = W i) ∧ eu 17 (u + 1) G0 (l + 1) S0 = (q + 1, G) ∧ q ≤ u ∧ q ≤ l ∧ u' = u - q ∧ l' = l - q ∧ U' = shd (dv G q (u + 1 - q) U) q (u - q + 1) ∧ W' = shd (dv G q (l + 1 - q) W) q (l - q + 1)
def exY (m : Nat) (la lb : Bk) (u : Nat) (U : Nat → Nat) (l : Nat) (W : Nat → Nat) : Prop := ∃ U0 W0, fdY m la lb U0 W0 ∧ rdY (uN m la.length lb.length) U0 (lN2 m la.length lb.length) W0 u U l W
def eu_law : Prop := ∀ (u l : Nat) (U W : Nat → Nat), u ≤ 16 → l ≤ 16 → lt17 U → lt17 W → U u = 1 → W l = 1 → ∃ q G, eu 17 (u + 1) U (l + 1) W = (q + 1, G) ∧ q ≤ u ∧ q ≤ l
abbrev exT : Type := Nat → Bk → Bk → Option (Nat × (Nat → Nat) × Nat × (Nat → Nat))
def clOk (O : exT) : Prop := ∀ (m : Nat) (la lb : Bk), 1 ≤ m → m ≤ 16 → gB la → gB lb → (exN m la lb → O m la lb = none) ∧ ∀ (u : Nat) (U : Nat → Nat) (l : Nat) (W : Nat → Nat), exY m la lb u U l W → ∃ U' W' : Nat → Nat, O m la lb = some (u, U', l, W') ∧ (∀ i, i ≤ u → U i = U' i) ∧ ∀ i, i ≤ l → W i = W' i
abbrev Sg : Type := (Nat → Bk) × Int64 × Nat × (Nat → Nat) × Nat × (Nat → Nat)
def isS (h : am_H) (S : Sg) : Prop := isCl h S.1 S.2.1 S.2.2.1 S.2.2.2.1 S.2.2.2.2.1 S.2.2.2.2.2
def zr (o : Bk) (d : Nat) (A : Nat → Nat) : Bk := fil (zrB (d + 1) A o) o o.length
def sq (o : Bk) (k : Nat) : Nat := smp o (1073741824 + k) o.length
def ckB (m : Nat) (la lb : Bk) (u : Nat) (U : Nat → Nat) (l : Nat) (W : Nat → Nat) : Bool := decide ((zr lb l W).length = l) && (decide ((zr la u U).length = u) && ftA U (u + 1) W (l + 1) (sq la) (sq lb) (m + 2) 0)
def dlS (la lb p1 p2 : Bk) : Int64 := if dlF la lb p1 p2 = true then 0 else lN (2 * ((kn p1 la).length + (kn p2 lb).length))
def exF (O : exT) (S : Sg) (a b m : Nat) : Int32 × Sg := match O m (S.1 a) (S.1 b) with
  | none => (-4, S.1, S.2.1 + lN (m + 3), S.2.2)
  | some (u, U, l, W) => if ckB m (S.1 a) (S.1 b) u U l W = true then (dlR (S.1 a) (S.1 b) (zr (S.1 b) l W) (zr (S.1 a) u U), dlB S.1 a b (zr (S.1 b) l W) (zr (S.1 a) u U), S.2.1 + lN (m + 3) + lN (u + l) + dlS (S.1 a) (S.1 b) (zr (S.1 b) l W) (zr (S.1 a) u U), u, U, l, W) else (-4, S.1, S.2.1 + lN (m + 3) + lN (u + l), u, U, l, W)
def lsF (S : Sg) (a b : Nat) : Int32 × Sg := (dlR (S.1 a) (S.1 b) (alB (S.1 b)) (alB (S.1 a)), dlB S.1 a b (alB (S.1 b)) (alB (S.1 a)), S.2.1 + lN (2 * ((S.1 a).length + (S.1 b).length)), S.2.2)
theorem hvS_congr {A A' : Nat → Nat} (x : Nat) : ∀ k j, (∀ i, i < j + k → A i = A' i) → hvS A x k j = hvS A' x k j
  | 0, _, _ => rfl
  | k + 1, j, h => by rw [hvS, hvS, hvS_congr x k (j + 1) (fun i hi => h i (by omega)), h j (by omega)]
theorem zr_congr {A A' : Nat → Nat} {o : Bk} {d : Nat} (h : ∀ i, i ≤ d → A i = A' i) : zr o d A = zr o d A' := by
  unfold zr
  have : zrB (d + 1) A o = zrB (d + 1) A' o := by
    funext i
    unfold zrB
    rw [hvS_congr (A := A) (A' := A') _ (d + 1) 0 (fun i hi => h i (by omega))]
  rw [this]
theorem ftA_congr {U U' W W' SA SA' SB SB' : Nat → Nat} {u l p : Nat} (hU : ∀ i, i ≤ u → U i = U' i) (hW : ∀ i, i ≤ l → W i = W' i) (hA : ∀ k, k < p → SA k = SA' k) (hB : ∀ k, k < p → SB k = SB' k) : ∀ n k, k + n = p → ftA U (u + 1) W (l + 1) SA SB n k = ftA U' (u + 1) W' (l + 1) SA' SB' n k
  | 0, _, _ => rfl
  | n + 1, k, hk => by
    rw [ftA, ftA, ftA_congr hU hW hA hB n (k + 1) (by omega)]
    have : fts U (u + 1) W (l + 1) SA SB k = fts U' (u + 1) W' (l + 1) SA' SB' k := by
      unfold fts
      rw [hvS_congr (A := U) (A' := U') _ (u + 1) 0 (fun i hi => hU i (by omega)), hvS_congr (A := W) (A' := W') _ (l + 1) 0 (fun i hi => hW i (by omega)), hA k (by omega), hB k (by omega)]
    rw [this]
theorem fdL_cl : ∀ k, k ∈ fdL → k ∈ clL := fun k hk => by
  rw [mem_fdL] at hk
  rw [clL_mem]
  omega
theorem isCl.fd {h h1 : am_H} {B : Nat → Bk} {s : Int64} {u : Nat} {U : Nat → Nat} {l : Nat} {W : Nat → Nat} {ro : Nat → Nat} {c : Nat} {M : Nat → Nat → Nat} {uk : Nat → Option Nat} {SA SB : Nat → Nat} {u2 : Nat} {U2 : Nat → Nat} {l2 : Nat} {W2 : Nat → Nat} (H : isCl h B s u U l W) (hf : fr fdL h h1) (hQ : isQ h1 ro c M uk) (h38 : isLA h1 38 18 SA) (h39 : isLA h1 39 18 SB) (hSA : lt18 SA) (hSB : lt18 SB) (hP : isPr h1 u2 U2 l2 W2) : isCl h1 B s u2 U2 l2 W2 := by
  obtain ⟨h0, h1', hK, hX, _⟩ := H
  refine ⟨hf.at h0 (by rw [mem_fdL]; omega), h1'.mv hf (by rw [mem_fdL]; omega), hK.mv hf (fun k _ _ => by rw [mem_fdL]; omega), ?_, hP⟩
  obtain ⟨a, ⟨l2, c⟩, ⟨l3, b⟩, ⟨k, A, d⟩, ⟨k2, A2, e⟩, _⟩ := hX
  refine ⟨hf.at a ?_, ⟨l2, c.fr hf ?_ ?_ ?_ ?_⟩, ⟨l3, b.fr hf ?_ ?_ ?_ ?_⟩, ⟨k, A, d.fr hf ?_ ?_⟩, ⟨k2, A2, e.fr hf ?_ ?_⟩, ⟨ro, _, M, uk, hQ⟩, ⟨SA, h38, hSA⟩, SB, h39, hSB⟩
  all_goals (rw [mem_fdL]; omega)
theorem isP.pr {h : am_H} {u l : Nat} {U W : Nat → Nat} (h1 : isP h 11 (u + 1) U) (h2 : isP h 13 (l + 1) W) : isPr h u U l W := ⟨U, W, h1, h2, fun _ _ => rfl, fun _ _ => rfl⟩
theorem isCl.rd {h h1 : am_H} {B : Nat → Bk} {s : Int64} {u : Nat} {U : Nat → Nat} {l : Nat} {W : Nat → Nat} {u2 : Nat} {U2 : Nat → Nat} {l2 : Nat} {W2 : Nat → Nat} (H : isCl h B s u U l W) (hf : fr [11, 12, 13, 14, 15, 16, 17, 18] h h1) (h15 : ∃ k A, isP h1 15 k A) (h17 : ∃ k A, isP h1 17 k A) (hP : isPr h1 u2 U2 l2 W2) : isCl h1 B s u2 U2 l2 W2 := by
  obtain ⟨h0, h1', hK, hX, _⟩ := H
  refine ⟨hf.at h0 (by simp), h1'.mv hf (by simp), hK.mv hf (fun k _ _ => by simp; omega), ?_, hP⟩
  obtain ⟨a, ⟨l2, c⟩, ⟨l3, b⟩, _, _, ⟨ro, c0, M, uk, g⟩, ⟨SA, i, i2⟩, SB, j, j2⟩ := hX
  exact ⟨hf.at a (by simp), ⟨l2, c.fr hf (by simp) (by simp) (by simp) (by simp)⟩, ⟨l3, b.fr hf (by simp) (by simp) (by simp) (by simp)⟩, h15, h17, ⟨ro, c0, M, uk, g.mv hf (fun k _ _ => by simp; omega)⟩, ⟨SA, hf.at i (by simp), i2⟩, SB, hf.at j (by simp), j2⟩
theorem c_A_find2 (X : am_X) (d : Nat) (h : am_H) {B : Nat → Bk} {s : Int64} {u : Nat} {U : Nat → Nat} {l : Nat} {W : Nat → Nat} (hC : isCl h B s u U l W) {a b m : Nat} (ha : a < 4) (hb : b < 4) (hm1 : 1 ≤ m) (hm : m ≤ 16) : ar Pg X (d + 1 + 1 + 1) n_A_find 0 [some (.ref 10), some (.ref (40 + 4 * a)), some (.ref (40 + 4 * b)), some (.int (nI m)), none, none, none, none, none] [] h (fun rr h' => ∃ ok : Bool, rr = some (.int (bi ok)) ∧ fr clL h h' ∧ (ok = false → exN m (B a) (B b) ∧ isCl h' B s u U l W) ∧ (ok = true → ∃ U0 W0 SA SB : Nat → Nat, fdY m (B a) (B b) U0 W0 ∧ isCl h' B s (uN m (B a).length (B b).length) U0 (lN2 m (B a).length (B b).length) W0 ∧ isP h' 11 (uN m (B a).length (B b).length + 1) U0 ∧ isP h' 13 (lN2 m (B a).length (B b).length + 1) W0 ∧ isLA h' 38 18 SA ∧ lt18 SA ∧ isLA h' 39 18 SB ∧ lt18 SB ∧ (∀ k, k < m + 2 → SA k = sq (B a) k) ∧ ∀ k, k < m + 2 → SB k = sq (B b) k)) := by
  have hC0 := hC
  obtain ⟨h0, h1, hK, ⟨hF, _, _, _, _, ⟨ro, c0, M, uk, hQ⟩, ⟨SA, h38, hSA⟩, SB, h39, hSB⟩, U1, W1, hU1, hW1, hUe, hWe⟩ := hC
  obtain ⟨hRa, hSa, hVa⟩ := hK a ha
  obtain ⟨hRb, hSb, hVb⟩ := hK b hb
  have hM17 : ∀ i, i < 16 → lt17 (M i) := hQ.2.2.2.2.1
  refine ar_mono (c_A_find X d h ⟨by omega, by omega⟩ ⟨by omega, by omega⟩ hVa.W hVb.W hm1 hm hF hRa hRb hQ hU1 hW1 h38 h39 hSA hSB) ?_
  rintro rr h' (⟨hr, rfl, rfl⟩ | ⟨hr1, hr2, ok, rfl, hf, hok, hA, hB, ⟨ro2, hQ2⟩, hy, hn⟩)
  · exact ⟨false, rfl, fr.rf _ _, fun _ => ⟨Or.inl hr, hC0⟩, fun z => absurd z (by decide)⟩
  · refine ⟨ok, rfl, hf.mono fdL_cl, fun z => ⟨Or.inr ⟨hr1, hr2, M, uk, SA, SB, hM17, hSA, hSB, by rw [← hok]; exact z⟩, ?_⟩, fun z => ?_⟩
    · obtain ⟨k1, k2⟩ := hn z
      exact hC0.fd hf hQ2 hA hB (tk_18 hSA _ _) (tk_18 hSB _ _) ⟨U1, W1, k1, k2, hUe, hWe⟩
    · obtain ⟨k1, k2⟩ := hy z
      exact ⟨_, _, _, _, ⟨hr1, hr2, M, uk, SA, SB, U1, W1, hM17, hSA, hSB, hU1.2.2.2, hW1.2.2.2, by rw [← hok]; exact z, rfl, rfl⟩, hC0.fd hf hQ2 hA hB (tk_18 hSA _ _) (tk_18 hSB _ _) (k1.pr k2), k1, k2, hA, tk_18 hSA _ _, hB, tk_18 hSB _ _, fun k hk => tk_at _ _ _ _ hk, fun k hk => tk_at _ _ _ _ hk⟩
theorem c_A_red2 (hE : eu_law) (X : am_X) (d : Nat) (h : am_H) {B : Nat → Bk} {s : Int64} {u : Nat} {U : Nat → Nat} {l : Nat} {W : Nat → Nat} (hC : isCl h B s u U l W) (hU : isP h 11 (u + 1) U) (hW : isP h 13 (l + 1) W) (hu1 : U u = 1) (hl1 : W l = 1) : ar Pg X (d + 1 + 1 + 1) n_A_reduce 0 [some (.ref 10), none, none, none, none] [] h (fun rr h' => rr = none ∧ fr [11, 12, 13, 14, 15, 16, 17, 18] h h' ∧ ∃ (u' : Nat) (U' : Nat → Nat) (l' : Nat) (W' : Nat → Nat), rdY u U l W u' U' l' W' ∧ isP h' 11 (u' + 1) U' ∧ isP h' 13 (l' + 1) W' ∧ isCl h' B s u' U' l' W') := by
  have hC0 := hC
  obtain ⟨h0, h1, hK, ⟨hF, _, _, ⟨k1, A1, h15⟩, ⟨k2, A2, h17⟩, _⟩, _⟩ := hC
  have hu := hU.1
  have hl := hW.1
  have hEE : ∀ G0 S0 : Nat → Nat, (∀ i, i < 17 → G0 i = U i) → (∀ i, i < 17 → S0 i = W i) → ∃ q G, eu 17 (u + 1) G0 (l + 1) S0 = (q + 1, G) ∧ q ≤ u ∧ q ≤ l := fun G0 S0 e1 e2 =>
    hE u l G0 S0 (by omega) (by omega) (fun i hi => by rw [e1 i hi]; exact hU.2.2.2 i hi) (fun i hi => by rw [e2 i hi]; exact hW.2.2.2 i hi) (by rw [e1 u (by omega)]; exact hu1) (by rw [e2 l (by omega)]; exact hl1)
  refine ar_mono (c_A_reduce X d h hF hU hW h15 h17 hEE) ?_
  rintro rr h' ⟨rfl, hf, G0, S0, q, G, e1, e2, he, hP1, hP2, h15', h17'⟩
  obtain ⟨q2, G2, he2, hq1, hq2⟩ := hEE G0 S0 e1 e2
  rw [he] at he2
  have hqq : q + 1 = q2 + 1 := (Prod.mk.inj he2).1
  exact ⟨rfl, hf, _, _, _, _, ⟨G0, S0, q, G, e1, e2, he, by omega, by omega, rfl, rfl, rfl, rfl⟩, hP1, hP2, hC0.rd hf h15' h17' (hP1.pr hP2)⟩
theorem fdP_top (A : Nat → Nat) (G : (Nat → Nat → Nat) × (Nat → Option Nat) × Nat) (n fst nd : Nat) : fdP A G n fst nd nd = 1 := by
  unfold fdP updN
  rw [if_pos rfl]
end
section
/-! The class: runExchange and what calls it -/
theorem i64z (x : Int64) : x + 0 = x := Int64.add_zero x
theorem c_B_runExchange (O : exT) (hOk : clOk O) (hE : eu_law) (X : am_X) (d : Nat) (h : am_H) {B : Nat → Bk} {s : Int64} {u : Nat} {U : Nat → Nat} {l : Nat} {W : Nat → Nat} (hC : isCl h B s u U l W) {a b m : Nat} (ha : a < 4) (hb : b < 4) (hne : a ≠ b) (hm1 : 1 ≤ m) (hm : m ≤ 16) : ar Pg X (d + 1 + 1 + 1 + 1) n_B_runExchange 0 [some (.ref 0), some (.ref (40 + 4 * a)), some (.ref (40 + 4 * b)), some (.int (nI m)), none, none, none, none] [] h (fun rr h' => rr = some (.int (exF O (B, s, u, U, l, W) a b m).1) ∧ isS h' (exF O (B, s, u, U, l, W) a b m).2 ∧ fr clL h h') := by
  have gA : gB (B a) := ⟨(hC.2.2.1 a ha).1.1, (hC.2.2.1 a ha).2⟩
  have gBb : gB (B b) := ⟨(hC.2.2.1 b hb).1.1, (hC.2.2.1 b hb).2⟩
  obtain ⟨ho1, ho2⟩ := hOk m (B a) (B b) hm1 hm gA gBb
  have h0 : h[0]? = some (.inr (0, [.ref 1, .ref 2, .ref 6, .ref 10, .long s])) := hC.1
  refine ar_go M_B_runExchange 2 _ 2 _ [some (.ref 0), some (.ref (40 + 4 * a)), some (.ref (40 + 4 * b)), some (.int (nI m)), none, none, none, none] _ [.ref 0, .ref 0] rfl ?_
  refine ar_get M_B_runExchange rfl rfl h0 rfl ?_
  refine ar_go M_B_runExchange 3 _ 8 _ [some (.ref 0), some (.ref (40 + 4 * a)), some (.ref (40 + 4 * b)), some (.int (nI m)), none, none, none, none] _ [.int (nI m + nI 3), .long s, .ref 0] rfl ?_
  refine ar_top (w := .int (nI (m + 3))) (congrArg Value.int (nI_add m 3)) ?_
  refine ar_go M_B_runExchange 1 _ 9 _ [some (.ref 0), some (.ref (40 + 4 * a)), some (.ref (40 + 4 * b)), some (.int (nI m)), none, none, none, none] _ [.long ((nI (m + 3)).toInt64), .long s, .ref 0] rfl ?_
  refine ar_top (w := .long (lN (m + 3))) (congrArg Value.long (nI_l (by omega))) ?_
  refine ar_go M_B_runExchange 1 _ 10 _ [some (.ref 0), some (.ref (40 + 4 * a)), some (.ref (40 + 4 * b)), some (.int (nI m)), none, none, none, none] _ [.long (s + lN (m + 3)), .ref 0] rfl ?_
  refine ar_put M_B_runExchange rfl rfl h0 (Nat.le_of_ble_eq_true rfl) rfl (Nat.le_of_ble_eq_true rfl) (fun h2 hf he => ?_)
  have h0 : h2[0]? = some (.inr (0, [.ref 1, .ref 2, .ref 6, .ref 10, .long (s + lN (m + 3))])) := he
  have hF0 : fr clL h h2 := hf.mono (by decide)
  have hC := hC.snt hf h0
  refine ar_go M_B_runExchange 1 _ 14 _ [some (.ref 0), some (.ref (40 + 4 * a)), some (.ref (40 + 4 * b)), some (.int (nI m)), none, none, none, none] _ [.ref 0] rfl ?_
  refine ar_get M_B_runExchange rfl rfl hC.1 rfl ?_
  refine ar_go M_B_runExchange 3 _ 20 _ [some (.ref 0), some (.ref (40 + 4 * a)), some (.ref (40 + 4 * b)), some (.int (nI m)), none, none, none, none] _ [.int (nI m), .ref (40 + 4 * b), .ref (40 + 4 * a), .ref 10] rfl ?_
  refine ar_CV M_B_runExchange rfl rfl (Or.inl rfl) rfl rfl (Nat.le_of_ble_eq_true rfl) hC.2.2.2.1.1 M_A_find (Nat.le_of_ble_eq_true rfl) (c_A_find2 X d _ hC ha hb hm1 hm) (fun r1 h3 hq => ?_)
  obtain ⟨ok, rfl, hf1, hno, hyes⟩ := hq
  refine ⟨hf1.1, ?_⟩
  have hF1 : fr clL h h3 := hF0.tr hf1 (fun _ z => z) (fun _ z => z)
  show ar Pg _ _ _ 23 [some (.ref 0), some (.ref (40 + 4 * a)), some (.ref (40 + 4 * b)), some (.int (nI m)), none, none, none, none] [.int (bi ok)] _ _
  refine ar_if M_B_runExchange rfl rfl (fun hc => ?_) (fun hc => ?_)
  · have hc := bi_ne_t hc
    obtain ⟨U0, W0, SA, SB, hY, hC, hU0, hW0, h38, hSA, h39, hSB, eSA, eSB⟩ := hyes hc
    have hY0 := hY
    obtain ⟨_, _, _, _, _, _, _, _, _, _, _, _, _, _, e1, e2⟩ := hY0
    have hu1 : U0 (uN m (B a).length (B b).length) = 1 := by rw [e1]; exact fdP_top _ _ _ _ _
    have hl1 : W0 (lN2 m (B a).length (B b).length) = 1 := by rw [e2]; exact fdP_top _ _ _ _ _
    refine ar_go M_B_runExchange 1 _ 30 _ [some (.ref 0), some (.ref (40 + 4 * a)), some (.ref (40 + 4 * b)), some (.int (nI m)), none, none, none, none] _ [.ref 0] rfl ?_
    refine ar_get M_B_runExchange rfl rfl hC.1 rfl ?_
    refine ar_CV M_B_runExchange rfl rfl (Or.inl rfl) rfl rfl (Nat.le_of_ble_eq_true rfl) hC.2.2.2.1.1 M_A_reduce (Nat.le_of_ble_eq_true rfl) (c_A_red2 hE X d _ hC hU0 hW0 hu1 hl1) (fun r1 h4 hq => ?_)
    obtain ⟨rfl, hf2, u2, U2, l2, W2, hrd, hU2, hW2, hC⟩ := hq
    refine ⟨hf2.1, ?_⟩
    have hF2 : fr clL h h4 := hF1.tr hf2 (fun _ z => z) (by decide)
    obtain ⟨U3, W3, hO, eU, eW⟩ := ho2 u2 U2 l2 W2 ⟨U0, W0, hY, hrd⟩
    have h38 : isLA h4 38 18 SA := hf2.at h38 (by simp)
    have h39 : isLA h4 39 18 SB := hf2.at h39 (by simp)
    have hu17 := hU2.1
    have hl17 := hW2.1
    have hC : isCl h4 B (s + lN (m + 3)) u2 U3 l2 W3 := hC.rd (fr.rf _ _) hC.2.2.2.1.2.2.2.1 hC.2.2.2.1.2.2.2.2.1 ⟨U2, W2, hU2, hW2, eU, eW⟩
    show ar Pg _ _ _ 36 [some (.ref 0), some (.ref (40 + 4 * a)), some (.ref (40 + 4 * b)), some (.int (nI m)), none, none, none, none] [] _ _
    refine ar_go M_B_runExchange 1 _ 37 _ [some (.ref 0), some (.ref (40 + 4 * a)), some (.ref (40 + 4 * b)), some (.int (nI m)), none, none, none, none] _ [.ref 0] rfl ?_
    refine ar_get M_B_runExchange rfl rfl hC.1 rfl ?_
    refine ar_get M_B_runExchange rfl rfl hC.2.2.2.1.1 rfl ?_
    refine ar_go M_B_runExchange 2 _ 46 _ [some (.ref 0), some (.ref (40 + 4 * a)), some (.ref (40 + 4 * b)), some (.int (nI m)), some (.ref 11), none, none, none] _ [.ref 0] rfl ?_
    refine ar_get M_B_runExchange rfl rfl hC.1 rfl ?_
    refine ar_get M_B_runExchange rfl rfl hC.2.2.2.1.1 rfl ?_
    refine ar_go M_B_runExchange 3 _ 56 _ [some (.ref 0), some (.ref (40 + 4 * a)), some (.ref (40 + 4 * b)), some (.int (nI m)), some (.ref 11), some (.ref 13), none, none] _ [.ref 0, .ref 0] rfl ?_
    refine ar_get M_B_runExchange rfl rfl hC.1 rfl ?_
    refine ar_go M_B_runExchange 1 _ 61 _ [some (.ref 0), some (.ref (40 + 4 * a)), some (.ref (40 + 4 * b)), some (.int (nI m)), some (.ref 11), some (.ref 13), none, none] _ [.ref 11, .long (s + lN (m + 3)), .ref 0] rfl ?_
    refine ar_get M_B_runExchange rfl rfl hU2.2.1 rfl ?_
    refine ar_go M_B_runExchange 1 _ 66 _ [some (.ref 0), some (.ref (40 + 4 * a)), some (.ref (40 + 4 * b)), some (.int (nI m)), some (.ref 11), some (.ref 13), none, none] _ [.ref 13, .int (nI u2), .long (s + lN (m + 3)), .ref 0] rfl ?_
    refine ar_get M_B_runExchange rfl rfl hW2.2.1 rfl ?_
    refine ar_go M_B_runExchange 1 _ 70 _ [some (.ref 0), some (.ref (40 + 4 * a)), some (.ref (40 + 4 * b)), some (.int (nI m)), some (.ref 11), some (.ref 13), none, none] _ [.int (nI u2 + nI l2), .long (s + lN (m + 3)), .ref 0] rfl ?_
    refine ar_top (w := .int (nI (u2 + l2))) (congrArg Value.int (nI_add u2 l2)) ?_
    refine ar_go M_B_runExchange 1 _ 71 _ [some (.ref 0), some (.ref (40 + 4 * a)), some (.ref (40 + 4 * b)), some (.int (nI m)), some (.ref 11), some (.ref 13), none, none] _ [.long ((nI (u2 + l2)).toInt64), .long (s + lN (m + 3)), .ref 0] rfl ?_
    refine ar_top (w := .long (lN (u2 + l2))) (congrArg Value.long (nI_l (by omega))) ?_
    refine ar_go M_B_runExchange 1 _ 72 _ [some (.ref 0), some (.ref (40 + 4 * a)), some (.ref (40 + 4 * b)), some (.int (nI m)), some (.ref 11), some (.ref 13), none, none] _ [.long ((s + lN (m + 3)) + lN (u2 + l2)), .ref 0] rfl ?_
    have h0 : h4[0]? = some (.inr (0, [.ref 1, .ref 2, .ref 6, .ref 10, .long (s + lN (m + 3))])) := hC.1
    refine ar_put M_B_runExchange rfl rfl h0 (Nat.le_of_ble_eq_true rfl) rfl (Nat.le_of_ble_eq_true rfl) (fun h5 hf he => ?_)
    have h0 : h5[0]? = some (.inr (0, [.ref 1, .ref 2, .ref 6, .ref 10, .long ((s + lN (m + 3)) + lN (u2 + l2))])) := he
    have hF3 : fr clL h h5 := hF2.tr hf (fun _ z => z) (by decide)
    have hC := hC.snt hf h0
    have hU2 := hU2.fr hf (by simp) (by simp)
    have hW2 := hW2.fr hf (by simp) (by simp)
    have h38 : isLA h5 38 18 SA := hf.at h38 (by simp)
    have h39 : isLA h5 39 18 SB := hf.at h39 (by simp)
    obtain ⟨_, ⟨l1, hP1⟩, ⟨l6, hP2⟩, _⟩ := hC.2.2.2.1
    refine ar_go M_B_runExchange 1 _ 76 _ [some (.ref 0), some (.ref (40 + 4 * a)), some (.ref (40 + 4 * b)), some (.int (nI m)), some (.ref 11), some (.ref 13), none, none] _ [.ref 0] rfl ?_
    refine ar_get M_B_runExchange rfl rfl hC.1 rfl ?_
    refine ar_go M_B_runExchange 2 _ 82 _ [some (.ref 0), some (.ref (40 + 4 * a)), some (.ref (40 + 4 * b)), some (.int (nI m)), some (.ref 11), some (.ref 13), none, none] _ [.ref 13, .ref (40 + 4 * b), .ref 2] rfl ?_
    refine ar_CV M_B_runExchange rfl rfl (Or.inl rfl) rfl rfl (Nat.le_of_ble_eq_true rfl) hP1.2.1 M_R_becomeZerosAmong (Nat.le_of_ble_eq_true rfl) (c_R_becomeZerosAmong X (d + 1) _ (r := 2) (s := 40 + 4 * b) (y := 13) hW2 (by omega) (by omega) (hC.2.2.1 b hb).2.2.W (hC.2.2.1 b hb).1 (by omega) (by omega) (by omega) hP1) (fun r1 h6 hq => ?_)
    obtain ⟨rfl, hf3, hP1⟩ := hq
    refine ⟨hf3.1, ?_⟩
    have hC := hC.par1 hf3 hP1
    have hP1 : isR h6 2 (zr (B b) l2 W3) := by rw [← zr_congr eW]; exact hP1
    have hP2 := hP2.fr hf3 (by simp) (by simp) (by simp) (by simp)
    have hU2 := hU2.fr hf3 (by simp) (by simp)
    have hW2 := hW2.fr hf3 (by simp) (by simp)
    have h38 : isLA h6 38 18 SA := hf3.at h38 (by simp)
    have h39 : isLA h6 39 18 SB := hf3.at h39 (by simp)
    have hF4 : fr clL h h6 := hF3.tr (hf3.mono par1_cl) (fun _ z => z) (fun _ z => z)
    show ar Pg _ _ _ 85 [some (.ref 0), some (.ref (40 + 4 * a)), some (.ref (40 + 4 * b)), some (.int (nI m)), some (.ref 11), some (.ref 13), none, none] [] _ _
    refine ar_go M_B_runExchange 1 _ 86 _ [some (.ref 0), some (.ref (40 + 4 * a)), some (.ref (40 + 4 * b)), some (.int (nI m)), some (.ref 11), some (.ref 13), none, none] _ [.ref 0] rfl ?_
    refine ar_get M_B_runExchange rfl rfl hC.1 rfl ?_
    refine ar_go M_B_runExchange 2 _ 92 _ [some (.ref 0), some (.ref (40 + 4 * a)), some (.ref (40 + 4 * b)), some (.int (nI m)), some (.ref 11), some (.ref 13), none, none] _ [.ref 11, .ref (40 + 4 * a), .ref 6] rfl ?_
    refine ar_CV M_B_runExchange rfl rfl (Or.inl rfl) rfl rfl (Nat.le_of_ble_eq_true rfl) hP2.2.1 M_R_becomeZerosAmong (Nat.le_of_ble_eq_true rfl) (c_R_becomeZerosAmong X (d + 1) _ (r := 6) (s := 40 + 4 * a) (y := 11) hU2 (by omega) (by omega) (hC.2.2.1 a ha).2.2.W (hC.2.2.1 a ha).1 (by omega) (by omega) (by omega) hP2) (fun r1 h7 hq => ?_)
    obtain ⟨rfl, hf4, hP2⟩ := hq
    refine ⟨hf4.1, ?_⟩
    have hC := hC.par2 hf4 hP2
    have hP2 : isR h7 6 (zr (B a) u2 U3) := by rw [← zr_congr eU]; exact hP2
    have hP1 := hP1.fr hf4 (by simp) (by simp) (by simp) (by simp)
    have hU2 := hU2.fr hf4 (by simp) (by simp)
    have hW2 := hW2.fr hf4 (by simp) (by simp)
    have h38 : isLA h7 38 18 SA := hf4.at h38 (by simp)
    have h39 : isLA h7 39 18 SB := hf4.at h39 (by simp)
    have hF5 : fr clL h h7 := hF4.tr (hf4.mono par2_cl) (fun _ z => z) (fun _ z => z)
    have l1 := hP1.1
    have l2b := hP2.1
    show ar Pg _ _ _ 95 [some (.ref 0), some (.ref (40 + 4 * a)), some (.ref (40 + 4 * b)), some (.int (nI m)), some (.ref 11), some (.ref 13), none, none] [] _ _
    refine ar_go M_B_runExchange 1 _ 96 _ [some (.ref 0), some (.ref (40 + 4 * a)), some (.ref (40 + 4 * b)), some (.int (nI m)), some (.ref 11), some (.ref 13), none, none] _ [.ref 0] rfl ?_
    refine ar_get M_B_runExchange rfl rfl hC.1 rfl ?_
    refine ar_get M_B_runExchange rfl rfl hP1.2.1 rfl ?_
    refine ar_go M_B_runExchange 1 _ 104 _ [some (.ref 0), some (.ref (40 + 4 * a)), some (.ref (40 + 4 * b)), some (.int (nI m)), some (.ref 11), some (.ref 13), none, none] _ [.ref 13, .int (nI ((zr (B b) l2 W3).length))] rfl ?_
    refine ar_get M_B_runExchange rfl rfl hW2.2.1 rfl ?_
    refine ar_icmp M_B_runExchange rfl rfl (fun hc2 => ?_) (fun hc2 => ?_)
    · have hc2 := c2_ne_t (a := ((zr (B b) l2 W3).length)) (b := l2) (by omega) (by omega) hc2
      have hck : ckB m (B a) (B b) u2 U3 l2 W3 = false := by unfold ckB; rw [decide_eq_false hc2, Bool.false_and]
      refine ar_go M_B_runExchange 3 _ 134 _ [some (.ref 0), some (.ref (40 + 4 * a)), some (.ref (40 + 4 * b)), some (.int (nI m)), some (.ref 11), some (.ref 13), some (.int (nI 0)), none] _ [.int (nI 0)] rfl ?_
      refine ar_if M_B_runExchange rfl rfl (fun _ => ?_) (fun z => absurd z (by decide))
      refine ar_go M_B_runExchange 1 _ 152 _ [some (.ref 0), some (.ref (40 + 4 * a)), some (.ref (40 + 4 * b)), some (.int (nI m)), some (.ref 11), some (.ref 13), some (.int (nI 0)), none] _ [.int (-4)] rfl ?_
      exact ar_R M_B_runExchange rfl rfl rfl rfl (⟨by simp only [exF, hO, hck] <;> rfl, by simp only [exF, hO, hck]; exact hC, hF5⟩)
    · have hc2 := c2_ne_f (a := ((zr (B b) l2 W3).length)) (b := l2) (by omega) (by omega) hc2
      refine ar_go M_B_runExchange 1 _ 111 _ [some (.ref 0), some (.ref (40 + 4 * a)), some (.ref (40 + 4 * b)), some (.int (nI m)), some (.ref 11), some (.ref 13), none, none] _ [.ref 0] rfl ?_
      refine ar_get M_B_runExchange rfl rfl hC.1 rfl ?_
      refine ar_get M_B_runExchange rfl rfl hP2.2.1 rfl ?_
      refine ar_go M_B_runExchange 1 _ 119 _ [some (.ref 0), some (.ref (40 + 4 * a)), some (.ref (40 + 4 * b)), some (.int (nI m)), some (.ref 11), some (.ref 13), none, none] _ [.ref 11, .int (nI ((zr (B a) u2 U3).length))] rfl ?_
      refine ar_get M_B_runExchange rfl rfl hU2.2.1 rfl ?_
      refine ar_icmp M_B_runExchange rfl rfl (fun hc3 => ?_) (fun hc3 => ?_)
      · have hc3 := c2_ne_t (a := ((zr (B a) u2 U3).length)) (b := u2) (by omega) (by omega) hc3
        have hck : ckB m (B a) (B b) u2 U3 l2 W3 = false := by unfold ckB; rw [decide_eq_false hc3, Bool.false_and, Bool.and_false]
        refine ar_go M_B_runExchange 3 _ 134 _ [some (.ref 0), some (.ref (40 + 4 * a)), some (.ref (40 + 4 * b)), some (.int (nI m)), some (.ref 11), some (.ref 13), some (.int (nI 0)), none] _ [.int (nI 0)] rfl ?_
        refine ar_if M_B_runExchange rfl rfl (fun _ => ?_) (fun z => absurd z (by decide))
        refine ar_go M_B_runExchange 1 _ 152 _ [some (.ref 0), some (.ref (40 + 4 * a)), some (.ref (40 + 4 * b)), some (.int (nI m)), some (.ref 11), some (.ref 13), some (.int (nI 0)), none] _ [.int (-4)] rfl ?_
        exact ar_R M_B_runExchange rfl rfl rfl rfl (⟨by simp only [exF, hO, hck] <;> rfl, by simp only [exF, hO, hck]; exact hC, hF5⟩)
      · have hc3 := c2_ne_f (a := ((zr (B a) u2 U3).length)) (b := u2) (by omega) (by omega) hc3
        refine ar_go M_B_runExchange 4 _ 134 _ [some (.ref 0), some (.ref (40 + 4 * a)), some (.ref (40 + 4 * b)), some (.int (nI m)), some (.ref 11), some (.ref 13), some (.int (nI 1)), none] _ [.int (nI 1)] rfl ?_
        refine ar_if M_B_runExchange rfl rfl (fun z => absurd z (by decide)) (fun _ => ?_)
        refine ar_go M_B_runExchange 1 _ 138 _ [some (.ref 0), some (.ref (40 + 4 * a)), some (.ref (40 + 4 * b)), some (.int (nI m)), some (.ref 11), some (.ref 13), some (.int (nI 1)), none] _ [.ref 0] rfl ?_
        refine ar_get M_B_runExchange rfl rfl hC.1 rfl ?_
        refine ar_go M_B_runExchange 3 _ 144 _ [some (.ref 0), some (.ref (40 + 4 * a)), some (.ref (40 + 4 * b)), some (.int (nI m)), some (.ref 11), some (.ref 13), some (.int (nI 1)), none] _ [.int (nI m + nI 2), .ref 10] rfl ?_
        refine ar_top (w := .int (nI (m + 2))) (congrArg Value.int (nI_add m 2)) ?_
        refine ar_CV M_B_runExchange rfl rfl (Or.inl rfl) rfl rfl (Nat.le_of_ble_eq_true rfl) hC.2.2.2.1.1 M_A_fitsSamples (Nat.le_of_ble_eq_true rfl) (c_A_fitsSamples X (d + 1) _ hC.2.2.2.1.1 hU2 hW2 h38 h39 hSA hSB (by omega)) (fun r1 h1 hq => ?_)
        obtain ⟨rfl, rfl⟩ := hq
        refine ⟨rfl, ?_⟩
        rw [ftA_congr eU eW eSA eSB (m + 2) 0 (by omega)]
        show ar Pg _ _ _ 147 [some (.ref 0), some (.ref (40 + 4 * a)), some (.ref (40 + 4 * b)), some (.int (nI m)), some (.ref 11), some (.ref 13), some (.int (nI 1)), none] [.int (bi (ftA U3 (u2 + 1) W3 (l2 + 1) (sq (B a)) (sq (B b)) (m + 2) 0))] _ _
        refine ar_if M_B_runExchange rfl rfl (fun hc4 => ?_) (fun hc4 => ?_)
        · have hc4 := bi_ne_t hc4
          have hck : ckB m (B a) (B b) u2 U3 l2 W3 = true := by unfold ckB; rw [hc4, decide_eq_true hc2, decide_eq_true hc3]; rfl
          refine ar_go M_B_runExchange 3 _ 156 _ [some (.ref 0), some (.ref (40 + 4 * a)), some (.ref (40 + 4 * b)), some (.int (nI m)), some (.ref 11), some (.ref 13), some (.int (nI 1)), none] _ [.ref (40 + 4 * b), .ref (40 + 4 * a), .ref 0] rfl ?_
          refine ar_CV M_B_runExchange rfl rfl (Or.inl rfl) rfl rfl (Nat.le_of_ble_eq_true rfl) hC.1 M_B_deliverParcels (Nat.le_of_ble_eq_true rfl) (c_B_deliverParcels X d _ hC ha hb hne hP1 hP2 (fil_V gBb.2.2 _ (Nat.le_refl _)) (fil_V gA.2.2 _ (Nat.le_refl _))) (fun r1 h8 hq => ?_)
          obtain ⟨rfl, hC, hf5⟩ := hq
          refine ⟨hf5.1, ?_⟩
          have hF6 : fr clL h h8 := hF5.tr hf5 (fun _ z => z) (fun _ z => z)
          generalize htk : dlR (B a) (B b) (zr (B b) l2 W3) (zr (B a) u2 U3) = tk0
          show ar Pg _ _ _ 159 [some (.ref 0), some (.ref (40 + 4 * a)), some (.ref (40 + 4 * b)), some (.int (nI m)), some (.ref 11), some (.ref 13), some (.int (nI 1)), none] [.int tk0] _ _
          have hk1 := fil_len (knB (zr (B b) l2 W3) (B a)) (zr (B b) l2 W3) (zr (B b) l2 W3).length
          have hk2 := fil_len (knB (zr (B a) u2 U3) (B b)) (zr (B a) u2 U3) (zr (B a) u2 U3).length
          rw [show fil (knB (zr (B b) l2 W3) (B a)) (zr (B b) l2 W3) (zr (B b) l2 W3).length = kn (zr (B b) l2 W3) (B a) from rfl] at hk1
          rw [show fil (knB (zr (B a) u2 U3) (B b)) (zr (B a) u2 U3) (zr (B a) u2 U3).length = kn (zr (B a) u2 U3) (B b) from rfl] at hk2
          by_cases hff : dlF (B a) (B b) (zr (B b) l2 W3) (zr (B a) u2 U3) = true
          · have hds : dlS (B a) (B b) (zr (B b) l2 W3) (zr (B a) u2 U3) = 0 := by rw [dlS, if_pos hff]
            have htk2 : tk0 = -3 := by rw [← htk, dlR, if_pos hff]
            refine ar_go M_B_runExchange 2 _ 163 _ [some (.ref 0), some (.ref (40 + 4 * a)), some (.ref (40 + 4 * b)), some (.int (nI m)), some (.ref 11), some (.ref 13), some (.int (nI 1)), some (.int tk0)] _ [.int tk0] rfl ?_
            refine ar_if M_B_runExchange rfl rfl (fun _ => ?_) (fun z => absurd z (by rw [htk2]; decide))
            refine ar_go M_B_runExchange 1 _ 182 _ [some (.ref 0), some (.ref (40 + 4 * a)), some (.ref (40 + 4 * b)), some (.int (nI m)), some (.ref 11), some (.ref 13), some (.int (nI 1)), some (.int tk0)] _ [.int tk0] rfl ?_
            exact ar_R M_B_runExchange rfl rfl rfl rfl (⟨by simp only [exF, hO, hck, if_true, htk], by simp only [exF, hO, hck, if_true]; rw [hds, i64z]; exact hC, hF6⟩)
          · generalize htt : (kn (zr (B b) l2 W3) (B a)).length + (kn (zr (B a) u2 U3) (B b)).length = tt
            have hds : dlS (B a) (B b) (zr (B b) l2 W3) (zr (B a) u2 U3) = lN (2 * tt) := by rw [dlS, if_neg hff, htt]
            have htk2 : nI tt = tk0 := by rw [← htk, dlR, if_neg hff, htt]
            subst htk2
            refine ar_go M_B_runExchange 2 _ 163 _ [some (.ref 0), some (.ref (40 + 4 * a)), some (.ref (40 + 4 * b)), some (.int (nI m)), some (.ref 11), some (.ref 13), some (.int (nI 1)), some (.int (nI tt))] _ [.int (nI tt)] rfl ?_
            refine ar_if M_B_runExchange rfl rfl (fun hc5 => ?_) (fun hc5 => ?_)
            · have hc5 := c2_le_t (a := tt) (b := 0) (by omega) (by omega) hc5
              have ht0 : tt = 0 := by omega
              refine ar_go M_B_runExchange 1 _ 182 _ [some (.ref 0), some (.ref (40 + 4 * a)), some (.ref (40 + 4 * b)), some (.int (nI m)), some (.ref 11), some (.ref 13), some (.int (nI 1)), some (.int (nI tt))] _ [.int (nI tt)] rfl ?_
              exact ar_R M_B_runExchange rfl rfl rfl rfl (⟨by simp only [exF, hO, hck, if_true, htk], by simp only [exF, hO, hck, if_true]; rw [hds, ht0, show lN (2 * 0) = 0 from rfl, i64z]; exact hC, hF6⟩)
            · have hc5 := c2_le_f (a := tt) (b := 0) (by omega) (by omega) hc5
              have h0 : h8[0]? = some (.inr (0, [.ref 1, .ref 2, .ref 6, .ref 10, .long (s + lN (m + 3) + lN (u2 + l2))])) := hC.1
              refine ar_go M_B_runExchange 2 _ 168 _ [some (.ref 0), some (.ref (40 + 4 * a)), some (.ref (40 + 4 * b)), some (.int (nI m)), some (.ref 11), some (.ref 13), some (.int (nI 1)), some (.int (nI tt))] _ [.ref 0, .ref 0] rfl ?_
              refine ar_get M_B_runExchange rfl rfl h0 rfl ?_
              refine ar_go M_B_runExchange 3 _ 175 _ [some (.ref 0), some (.ref (40 + 4 * a)), some (.ref (40 + 4 * b)), some (.int (nI m)), some (.ref 11), some (.ref 13), some (.int (nI 1)), some (.int (nI tt))] _ [.int (nI 2 * nI tt), .long (s + lN (m + 3) + lN (u2 + l2)), .ref 0] rfl ?_
              refine ar_top (w := .int (nI (2 * tt))) (congrArg Value.int (pk_mul 2 tt)) ?_
              refine ar_go M_B_runExchange 1 _ 176 _ [some (.ref 0), some (.ref (40 + 4 * a)), some (.ref (40 + 4 * b)), some (.int (nI m)), some (.ref 11), some (.ref 13), some (.int (nI 1)), some (.int (nI tt))] _ [.long ((nI (2 * tt)).toInt64), .long (s + lN (m + 3) + lN (u2 + l2)), .ref 0] rfl ?_
              refine ar_top (w := .long (lN (2 * tt))) (congrArg Value.long (nI_l (by omega))) ?_
              refine ar_go M_B_runExchange 1 _ 177 _ [some (.ref 0), some (.ref (40 + 4 * a)), some (.ref (40 + 4 * b)), some (.int (nI m)), some (.ref 11), some (.ref 13), some (.int (nI 1)), some (.int (nI tt))] _ [.long ((s + lN (m + 3) + lN (u2 + l2)) + lN (2 * tt)), .ref 0] rfl ?_
              refine ar_put M_B_runExchange rfl rfl h0 (Nat.le_of_ble_eq_true rfl) rfl (Nat.le_of_ble_eq_true rfl) (fun h9 hf he => ?_)
              have h0 : h9[0]? = some (.inr (0, [.ref 1, .ref 2, .ref 6, .ref 10, .long ((s + lN (m + 3) + lN (u2 + l2)) + lN (2 * tt))])) := he
              have hC := hC.snt hf h0
              refine ar_go M_B_runExchange 1 _ 182 _ [some (.ref 0), some (.ref (40 + 4 * a)), some (.ref (40 + 4 * b)), some (.int (nI m)), some (.ref 11), some (.ref 13), some (.int (nI 1)), some (.int (nI tt))] _ [.int (nI tt)] rfl ?_
              exact ar_R M_B_runExchange rfl rfl rfl rfl (⟨by simp only [exF, hO, hck, if_true, htk], by simp only [exF, hO, hck, if_true]; rw [hds]; exact hC, hF6.tr hf (fun _ z => z) (by decide)⟩)
        · have hc4 := bi_ne_f hc4
          have hck : ckB m (B a) (B b) u2 U3 l2 W3 = false := by unfold ckB; rw [hc4, Bool.and_false, Bool.and_false]
          refine ar_go M_B_runExchange 1 _ 152 _ [some (.ref 0), some (.ref (40 + 4 * a)), some (.ref (40 + 4 * b)), some (.int (nI m)), some (.ref 11), some (.ref 13), some (.int (nI 1)), none] _ [.int (-4)] rfl ?_
          exact ar_R M_B_runExchange rfl rfl rfl rfl (⟨by simp only [exF, hO, hck] <;> rfl, by simp only [exF, hO, hck]; exact hC, hF5⟩)
  · have hc := bi_ne_f hc
    obtain ⟨hn, hC⟩ := hno hc
    have hOn := ho1 hn
    refine ar_go M_B_runExchange 1 _ 28 _ [some (.ref 0), some (.ref (40 + 4 * a)), some (.ref (40 + 4 * b)), some (.int (nI m)), none, none, none, none] _ [.int (-4)] rfl ?_
    exact ar_R M_B_runExchange rfl rfl rfl rfl (⟨by simp only [exF, hOn] <;> rfl, by simp only [exF, hOn]; exact hC, hF1⟩)
end
section
/-! The class: runSettling, exchange, list, settle, spread -/
theorem ar_xlen {P : am_P} {X : am_X} {d j pc : Nat} {ls : am_L} {h : am_H} {Q : Option Value → am_H → Prop} {M : am_M} {len a : Nat} {r : List Value} (hM : P.1[j]? = some M) (hi : M.2.2.2.2.2[pc]? = some (some (.arraylength, len))) (ha : a < 3) (kk : ar P X d j (pc + 1) ls (.int (nI (X a).1) :: r) h Q) : ar P X d j pc ls (.ref (am_x0 + a) :: r) h Q :=
  ar_P hM hi (by simp only [am_exP, am_alen, if_pos (Nat.le_add_right am_x0 a), Nat.add_sub_cancel_left]; rw [if_pos (Nat.add_lt_add_left ha _)]; rfl) kk
def mn (m : Nat) : Nat := if 16 < 2 * m then 16 else 2 * m
def slL (O : exT) (a b : Nat) : Nat → Int32 × Sg → Nat → Int32 × Sg
  | 0, R, _ => R
  | n + 1, R, m => if R.1 = -4 ∧ m < 16 then slL O a b n (exF O R.2 a b (mn m)) (mn m) else R
theorem slL_no {O : exT} {a b : Nat} {R : Int32 × Sg} {m : Nat} (h : ¬ (R.1 = -4 ∧ m < 16)) : ∀ n, slL O a b n R m = R
  | 0 => rfl
  | n + 1 => by rw [slL, if_neg h]
def stF (O : exT) (S : Sg) (a b m : Nat) : Int32 × Sg := if (slL O a b 15 (exF O S a b m) m).1 = -4 then lsF (slL O a b 15 (exF O S a b m) m).2 a b else slL O a b 15 (exF O S a b m) m
theorem c_B_rs_end (X : am_X) (d : Nat) (h : am_H) {R : Int32 × Sg} {m : Nat} {a b m0 : Nat} (ha : a < 4) (hb : b < 4) (hne : a ≠ b) (h1 : am_H) (hC : isS h1 R.2) (hF : fr clL h h1) : ar Pg X (d + 1 + 1 + 1 + 1 + 1) n_B_runSettling 51 [some (.ref 0), some (.ref (40 + 4 * a)), some (.ref (40 + 4 * b)), some (.int (nI m0)), some (.int (nI m)), some (.int R.1)] [] h1 (fun rr h' => rr = some (.int (if R.1 = -4 then lsF R.2 a b else R).1) ∧ isS h' (if R.1 = -4 then lsF R.2 a b else R).2 ∧ fr clL h h') := by
  refine ar_go M_B_runSettling 2 _ 55 _ [some (.ref 0), some (.ref (40 + 4 * a)), some (.ref (40 + 4 * b)), some (.int (nI m0)), some (.int (nI m)), some (.int R.1)] _ [.int (-4), .int R.1] rfl ?_
  refine ar_icmp M_B_runSettling rfl rfl (fun hc => ?_) (fun hc => ?_)
  · have hc : ¬ R.1 = -4 := of_decide_eq_true hc
    refine ar_go M_B_runSettling 1 _ 69 _ [some (.ref 0), some (.ref (40 + 4 * a)), some (.ref (40 + 4 * b)), some (.int (nI m0)), some (.int (nI m)), some (.int R.1)] _ [.int R.1] rfl ?_
    exact ar_R M_B_runSettling rfl rfl rfl rfl (⟨by rw [if_neg hc], by rw [if_neg hc]; exact hC, hF⟩)
  · have hc : R.1 = -4 := Decidable.not_not.mp (of_decide_eq_false hc)
    refine ar_go M_B_runSettling 3 _ 61 _ [some (.ref 0), some (.ref (40 + 4 * a)), some (.ref (40 + 4 * b)), some (.int (nI m0)), some (.int (nI m)), some (.int R.1)] _ [.ref (40 + 4 * b), .ref (40 + 4 * a), .ref 0] rfl ?_
    refine ar_CV M_B_runSettling rfl rfl (Or.inl rfl) rfl rfl (Nat.le_of_ble_eq_true rfl) hC.1 M_B_runListing (Nat.le_of_ble_eq_true rfl) (c_B_runListing X d _ hC ha hb hne) (fun r1 h2 hq => ?_)
    obtain ⟨rfl, hC2, hf2⟩ := hq
    refine ⟨hf2.1, ?_⟩
    show ar Pg _ _ _ 64 [some (.ref 0), some (.ref (40 + 4 * a)), some (.ref (40 + 4 * b)), some (.int (nI m0)), some (.int (nI m)), some (.int R.1)] [.int ((lsF R.2 a b).1)] _ _
    refine ar_go M_B_runSettling 1 _ 69 _ [some (.ref 0), some (.ref (40 + 4 * a)), some (.ref (40 + 4 * b)), some (.int (nI m0)), some (.int (nI m)), some (.int R.1)] _ [.int ((lsF R.2 a b).1)] rfl ?_
    exact ar_R M_B_runSettling rfl rfl rfl rfl (⟨by rw [if_pos hc], by rw [if_pos hc]; exact hC2, hF.tr hf2 (fun _ z => z) (fun _ z => z)⟩)
theorem mn_eq {m : Nat} (h : m ≤ 16) : (if nI 16 < nI (2 * m) then nI 16 else nI (2 * m)) = nI (mn m) := by
  unfold mn
  by_cases c : 16 < 2 * m
  · rw [if_pos ((nI_ltI (by decide) (by omega)).mpr c), if_pos c]
  · rw [if_neg (fun z => c ((nI_ltI (by decide) (by omega)).mp z)), if_neg c]
theorem mn_le {m : Nat} (h : 1 ≤ m) (h2 : m < 16) : m + 1 ≤ mn m ∧ mn m ≤ 16 := by
  unfold mn
  split <;> omega
theorem c_B_rs_loop (O : exT) (hOk : clOk O) (hE : eu_law) (X : am_X) (d : Nat) (h : am_H) {a b m0 : Nat} (ha : a < 4) (hb : b < 4) (hne : a ≠ b) : ∀ (n m : Nat) (R : Int32 × Sg) (h1 : am_H), 1 ≤ m → m ≤ 16 → 16 ≤ m + n → isS h1 R.2 → fr clL h h1 → ar Pg X (d + 1 + 1 + 1 + 1 + 1) n_B_runSettling 13 [some (.ref 0), some (.ref (40 + 4 * a)), some (.ref (40 + 4 * b)), some (.int (nI m0)), some (.int (nI m)), some (.int R.1)] [] h1 (fun rr h' => rr = some (.int (if (slL O a b n R m).1 = -4 then lsF (slL O a b n R m).2 a b else (slL O a b n R m)).1) ∧ isS h' (if (slL O a b n R m).1 = -4 then lsF (slL O a b n R m).2 a b else (slL O a b n R m)).2 ∧ fr clL h h') := by
  intro n
  induction n with
  | zero =>
    intro m R h1 hm1 hm hn hC hF
    have hm16 : m = 16 := by omega
    rw [slL_no (fun z => by omega)]
    refine ar_go M_B_runSettling 2 _ 17 _ [some (.ref 0), some (.ref (40 + 4 * a)), some (.ref (40 + 4 * b)), some (.int (nI m0)), some (.int (nI m)), some (.int R.1)] _ [.int (-4), .int R.1] rfl ?_
    refine ar_icmp M_B_runSettling rfl rfl (fun _ => c_B_rs_end X d h ha hb hne h1 hC hF) (fun _ => ?_)
    refine ar_go M_B_runSettling 2 _ 24 _ [some (.ref 0), some (.ref (40 + 4 * a)), some (.ref (40 + 4 * b)), some (.int (nI m0)), some (.int (nI m)), some (.int R.1)] _ [.int (nI 16), .int (nI m)] rfl ?_
    refine ar_icmp M_B_runSettling rfl rfl (fun _ => c_B_rs_end X d h ha hb hne h1 hC hF) (fun z => ?_)
    have z := c2_ge_f (a := m) (b := 16) (by omega) (by omega) z
    omega
  | succ n ih =>
    intro m R h1 hm1 hm hn hC hF
    refine ar_go M_B_runSettling 2 _ 17 _ [some (.ref 0), some (.ref (40 + 4 * a)), some (.ref (40 + 4 * b)), some (.int (nI m0)), some (.int (nI m)), some (.int R.1)] _ [.int (-4), .int R.1] rfl ?_
    refine ar_icmp M_B_runSettling rfl rfl (fun hc => ?_) (fun hc => ?_)
    · have hc : ¬ R.1 = -4 := of_decide_eq_true hc
      rw [slL_no (fun z => hc z.1)]
      exact c_B_rs_end X d h ha hb hne h1 hC hF
    · have hc : R.1 = -4 := Decidable.not_not.mp (of_decide_eq_false hc)
      refine ar_go M_B_runSettling 2 _ 24 _ [some (.ref 0), some (.ref (40 + 4 * a)), some (.ref (40 + 4 * b)), some (.int (nI m0)), some (.int (nI m)), some (.int R.1)] _ [.int (nI 16), .int (nI m)] rfl ?_
      refine ar_icmp M_B_runSettling rfl rfl (fun hc2 => ?_) (fun hc2 => ?_)
      · have hc2 := c2_ge_t (a := m) (b := 16) (by omega) (by omega) hc2
        rw [slL_no (fun z => by omega)]
        exact c_B_rs_end X d h ha hb hne h1 hC hF
      · have hc2 := c2_ge_f (a := m) (b := 16) (by omega) (by omega) hc2
        refine ar_go M_B_runSettling 3 _ 31 _ [some (.ref 0), some (.ref (40 + 4 * a)), some (.ref (40 + 4 * b)), some (.int (nI m0)), some (.int (nI m)), some (.int R.1)] _ [.int (nI 2 * nI m)] rfl ?_
        refine ar_top (w := .int (nI (2 * m))) (congrArg Value.int (pk_mul 2 m)) ?_
        refine ar_go M_B_runSettling 1 _ 33 _ [some (.ref 0), some (.ref (40 + 4 * a)), some (.ref (40 + 4 * b)), some (.int (nI m0)), some (.int (nI m)), some (.int R.1)] _ [.int (nI 16), .int (nI (2 * m))] rfl ?_
        refine ar_mmin M_B_runSettling rfl rfl (Nat.succ_pos _) (Nat.le_of_ble_eq_true rfl) (z := nI (mn m)) (mn_eq (by omega)) ?_
        have hmn := mn_le (m := m) (by omega) (by omega)
        refine ar_go M_B_runSettling 5 _ 43 _ [some (.ref 0), some (.ref (40 + 4 * a)), some (.ref (40 + 4 * b)), some (.int (nI m0)), some (.int (nI (mn m))), some (.int R.1)] _ [.int (nI (mn m)), .ref (40 + 4 * b), .ref (40 + 4 * a), .ref 0] rfl ?_
        refine ar_CV M_B_runSettling rfl rfl (Or.inl rfl) rfl rfl (Nat.le_of_ble_eq_true rfl) hC.1 M_B_runExchange (Nat.le_of_ble_eq_true rfl) (c_B_runExchange O hOk hE X d _ hC ha hb hne (m := mn m) (by omega) (by omega)) (fun r1 h2 hq => ?_)
        obtain ⟨rfl, hC2, hf2⟩ := hq
        refine ⟨hf2.1, ?_⟩
        show ar Pg _ _ _ 46 [some (.ref 0), some (.ref (40 + 4 * a)), some (.ref (40 + 4 * b)), some (.int (nI m0)), some (.int (nI (mn m))), some (.int R.1)] [.int ((exF O R.2 a b (mn m)).1)] _ _
        refine ar_go M_B_runSettling 2 _ 13 _ [some (.ref 0), some (.ref (40 + 4 * a)), some (.ref (40 + 4 * b)), some (.int (nI m0)), some (.int (nI (mn m))), some (.int ((exF O R.2 a b (mn m)).1))] _ [] rfl ?_
        rw [show slL O a b (n + 1) R m = slL O a b n (exF O R.2 a b (mn m)) (mn m) by rw [slL, if_pos ⟨hc, hc2⟩]]
        exact ih (mn m) _ h2 (by omega) (by omega) (by omega) hC2 (hF.tr hf2 (fun _ z => z) (fun _ z => z))
theorem c_B_runSettling (O : exT) (hOk : clOk O) (hE : eu_law) (X : am_X) (d : Nat) (h : am_H) {S : Sg} (hC : isS h S) {a b m : Nat} (ha : a < 4) (hb : b < 4) (hne : a ≠ b) (hm1 : 1 ≤ m) (hm : m ≤ 16) : ar Pg X (d + 1 + 1 + 1 + 1 + 1) n_B_runSettling 0 [some (.ref 0), some (.ref (40 + 4 * a)), some (.ref (40 + 4 * b)), some (.int (nI m)), none, none] [] h (fun rr h' => rr = some (.int (stF O S a b m).1) ∧ isS h' (stF O S a b m).2 ∧ fr clL h h') := by
  refine ar_go M_B_runSettling 6 _ 8 _ [some (.ref 0), some (.ref (40 + 4 * a)), some (.ref (40 + 4 * b)), some (.int (nI m)), some (.int (nI m)), none] _ [.int (nI m), .ref (40 + 4 * b), .ref (40 + 4 * a), .ref 0] rfl ?_
  refine ar_CV M_B_runSettling rfl rfl (Or.inl rfl) rfl rfl (Nat.le_of_ble_eq_true rfl) hC.1 M_B_runExchange (Nat.le_of_ble_eq_true rfl) (c_B_runExchange O hOk hE X d _ hC ha hb hne (m := m) (by omega) (by omega)) (fun r1 h2 hq => ?_)
  obtain ⟨rfl, hC2, hf2⟩ := hq
  refine ⟨hf2.1, ?_⟩
  show ar Pg _ _ _ 11 [some (.ref 0), some (.ref (40 + 4 * a)), some (.ref (40 + 4 * b)), some (.int (nI m)), some (.int (nI m)), none] [.int ((exF O S a b m).1)] _ _
  refine ar_go M_B_runSettling 1 _ 13 _ [some (.ref 0), some (.ref (40 + 4 * a)), some (.ref (40 + 4 * b)), some (.int (nI m)), some (.int (nI m)), some (.int ((exF O S a b m).1))] _ [] rfl ?_
  exact c_B_rs_loop O hOk hE X d h ha hb hne 15 m (exF O S a b m) h2 hm1 hm (by omega) hC2 hf2
def tw2 {α : Type} (v w : Int32) (e : α) (f : Nat → Nat → α) : α := if twB v w = true then f v.toNatClampNeg w.toNatClampNeg else e
def exchF (O : exT) (S : Sg) (v w x : Int32) : Int32 × Sg := if (twB v w && rch x) = true then exF O S v.toNatClampNeg w.toNatClampNeg x.toNatClampNeg else (-1, S)
def setF (O : exT) (S : Sg) (v w x : Int32) : Int32 × Sg := if (twB v w && rch x) = true then stF O S v.toNatClampNeg w.toNatClampNeg x.toNatClampNeg else (-1, S)
def listF (S : Sg) (v w : Int32) : Int32 × Sg := if twB v w = true then lsF S v.toNatClampNeg w.toNatClampNeg else (-1, S)
theorem c_B_exchange (O : exT) (hOk : clOk O) (hE : eu_law) (X : am_X) (d : Nat) (h : am_H) {S : Sg} (hC : isS h S) (v w x : Int32) : ar Pg X (d + 1 + 1 + 1 + 1 + 1) n_B_exchange 0 [some (.ref 0), some (.int v), some (.int w), some (.int x)] [] h (fun rr h' => rr = some (.int (exchF O S v w x).1) ∧ isS h' (exchF O S v w x).2 ∧ fr clL h h') := by
  obtain ⟨bf, hb1, hbf⟩ := hC.2.1
  refine ar_go M_B_exchange 2 _ 2 _ [some (.ref 0), some (.int v), some (.int w), some (.int x)] _ [.int w, .int v] rfl ?_
  refine ar_CS M_B_exchange rfl rfl (Nat.le_of_ble_eq_true rfl) rfl rfl (Nat.le_of_ble_eq_true rfl) M_B_areTwoBanks (Nat.le_of_ble_eq_true rfl) (c_B_areTwoBanks X (d + 1 + 1 + 1) _ v w) (fun r1 h1 hq => ?_)
  obtain ⟨rfl, rfl⟩ := hq
  refine ⟨rfl, ?_⟩
  show ar Pg _ _ _ 5 [some (.ref 0), some (.int v), some (.int w), some (.int x)] [.int (bi (twB v w))] _ _
  refine ar_if M_B_exchange rfl rfl (fun hc => ?_) (fun hc => ?_)
  · have hc := bi_eq_t hc
    have hz : exchF O S v w x = (-1, S) := by unfold exchF; rw [if_neg (by rw [hc, Bool.false_and]; decide)]
    refine ar_go M_B_exchange 1 _ 16 _ [some (.ref 0), some (.int v), some (.int w), some (.int x)] _ [.int (-1)] rfl ?_
    exact ar_R M_B_exchange rfl rfl rfl rfl (⟨by rw [hz] <;> rfl, by rw [hz]; exact hC, fr.rf _ _⟩)
  · have hc := bi_eq_f hc
    refine ar_go M_B_exchange 1 _ 9 _ [some (.ref 0), some (.int v), some (.int w), some (.int x)] _ [.int x] rfl ?_
    refine ar_CS M_B_exchange rfl rfl (Nat.le_of_ble_eq_true rfl) rfl rfl (Nat.le_of_ble_eq_true rfl) M_B_isReach (Nat.le_of_ble_eq_true rfl) (c_B_isReach X (d + 1 + 1 + 1 + 1) _ x) (fun r1 h1 hq => ?_)
    obtain ⟨rfl, rfl⟩ := hq
    refine ⟨rfl, ?_⟩
    show ar Pg _ _ _ 12 [some (.ref 0), some (.int v), some (.int w), some (.int x)] [.int (bi (rch x))] _ _
    refine ar_if M_B_exchange rfl rfl (fun hc2 => ?_) (fun hc2 => ?_)
    · have hc2 := bi_ne_t hc2
      have hcc := hc
      obtain ⟨a, b, ha, hb, hne, rfl, rfl⟩ := twB_ex hc
      have hcc2 := hc2
      obtain ⟨m, hm1, hm, rfl⟩ := rch_ex hc2
      have hz : exchF O S (nI a) (nI b) (nI m) = exF O S a b m := by unfold exchF; rw [if_pos (by rw [hcc, hcc2] <;> rfl), nI_clamp (show a < 2 ^ 31 by omega), nI_clamp (show b < 2 ^ 31 by omega), nI_clamp (show m < 2 ^ 31 by omega)]
      refine ar_go M_B_exchange 2 _ 19 _ [some (.ref 0), some (.int (nI a)), some (.int (nI b)), some (.int (nI m))] _ [.ref 0, .ref 0] rfl ?_
      refine ar_get M_B_exchange rfl rfl hC.1 rfl ?_
      refine ar_go M_B_exchange 1 _ 23 _ [some (.ref 0), some (.int (nI a)), some (.int (nI b)), some (.int (nI m))] _ [.int (nI a), .ref 1, .ref 0] rfl ?_
      refine ar_aald M_B_exchange rfl hb1 (Or.inr rfl) (vp_in_nI (by omega) (by decide)) (by rw [nI_clamp (n := a) (by omega)]; exact hbf a (by omega)) ?_
      refine ar_go M_B_exchange 1 _ 25 _ [some (.ref 0), some (.int (nI a)), some (.int (nI b)), some (.int (nI m))] _ [.ref 0, .ref (40 + 4 * a), .ref 0] rfl ?_
      refine ar_get M_B_exchange rfl rfl hC.1 rfl ?_
      refine ar_go M_B_exchange 1 _ 29 _ [some (.ref 0), some (.int (nI a)), some (.int (nI b)), some (.int (nI m))] _ [.int (nI b), .ref 1, .ref (40 + 4 * a), .ref 0] rfl ?_
      refine ar_aald M_B_exchange rfl hb1 (Or.inr rfl) (vp_in_nI (by omega) (by decide)) (by rw [nI_clamp (n := b) (by omega)]; exact hbf b (by omega)) ?_
      refine ar_go M_B_exchange 1 _ 31 _ [some (.ref 0), some (.int (nI a)), some (.int (nI b)), some (.int (nI m))] _ [.int (nI m), .ref (40 + 4 * b), .ref (40 + 4 * a), .ref 0] rfl ?_
      refine ar_CV M_B_exchange rfl rfl (Or.inl rfl) rfl rfl (Nat.le_of_ble_eq_true rfl) hC.1 M_B_runExchange (Nat.le_of_ble_eq_true rfl) (c_B_runExchange O hOk hE X d _ hC ha hb hne (m := m) (by omega) (by omega)) (fun r1 h2 hq => ?_)
      obtain ⟨rfl, hC2, hf2⟩ := hq
      refine ⟨hf2.1, ?_⟩
      show ar Pg _ _ _ 34 [some (.ref 0), some (.int (nI a)), some (.int (nI b)), some (.int (nI m))] [.int ((exF O S a b m).1)] _ _
      exact ar_R M_B_exchange rfl rfl rfl rfl (⟨by rw [hz], by rw [hz]; exact hC2, hf2⟩)
    · have hc2 := bi_ne_f hc2
      have hz : exchF O S v w x = (-1, S) := by unfold exchF; rw [if_neg (by rw [hc2, Bool.and_false]; decide)]
      refine ar_go M_B_exchange 1 _ 16 _ [some (.ref 0), some (.int v), some (.int w), some (.int x)] _ [.int (-1)] rfl ?_
      exact ar_R M_B_exchange rfl rfl rfl rfl (⟨by rw [hz] <;> rfl, by rw [hz]; exact hC, fr.rf _ _⟩)
theorem c_B_settle (O : exT) (hOk : clOk O) (hE : eu_law) (X : am_X) (d : Nat) (h : am_H) {S : Sg} (hC : isS h S) (v w x : Int32) : ar Pg X (d + 1 + 1 + 1 + 1 + 1 + 1) n_B_settle 0 [some (.ref 0), some (.int v), some (.int w), some (.int x)] [] h (fun rr h' => rr = some (.int (setF O S v w x).1) ∧ isS h' (setF O S v w x).2 ∧ fr clL h h') := by
  obtain ⟨bf, hb1, hbf⟩ := hC.2.1
  refine ar_go M_B_settle 2 _ 2 _ [some (.ref 0), some (.int v), some (.int w), some (.int x)] _ [.int w, .int v] rfl ?_
  refine ar_CS M_B_settle rfl rfl (Nat.le_of_ble_eq_true rfl) rfl rfl (Nat.le_of_ble_eq_true rfl) M_B_areTwoBanks (Nat.le_of_ble_eq_true rfl) (c_B_areTwoBanks X (d + 1 + 1 + 1 + 1) _ v w) (fun r1 h1 hq => ?_)
  obtain ⟨rfl, rfl⟩ := hq
  refine ⟨rfl, ?_⟩
  show ar Pg _ _ _ 5 [some (.ref 0), some (.int v), some (.int w), some (.int x)] [.int (bi (twB v w))] _ _
  refine ar_if M_B_settle rfl rfl (fun hc => ?_) (fun hc => ?_)
  · have hc := bi_eq_t hc
    have hz : setF O S v w x = (-1, S) := by unfold setF; rw [if_neg (by rw [hc, Bool.false_and]; decide)]
    refine ar_go M_B_settle 1 _ 16 _ [some (.ref 0), some (.int v), some (.int w), some (.int x)] _ [.int (-1)] rfl ?_
    exact ar_R M_B_settle rfl rfl rfl rfl (⟨by rw [hz] <;> rfl, by rw [hz]; exact hC, fr.rf _ _⟩)
  · have hc := bi_eq_f hc
    refine ar_go M_B_settle 1 _ 9 _ [some (.ref 0), some (.int v), some (.int w), some (.int x)] _ [.int x] rfl ?_
    refine ar_CS M_B_settle rfl rfl (Nat.le_of_ble_eq_true rfl) rfl rfl (Nat.le_of_ble_eq_true rfl) M_B_isReach (Nat.le_of_ble_eq_true rfl) (c_B_isReach X (d + 1 + 1 + 1 + 1 + 1) _ x) (fun r1 h1 hq => ?_)
    obtain ⟨rfl, rfl⟩ := hq
    refine ⟨rfl, ?_⟩
    show ar Pg _ _ _ 12 [some (.ref 0), some (.int v), some (.int w), some (.int x)] [.int (bi (rch x))] _ _
    refine ar_if M_B_settle rfl rfl (fun hc2 => ?_) (fun hc2 => ?_)
    · have hc2 := bi_ne_t hc2
      have hcc := hc
      obtain ⟨a, b, ha, hb, hne, rfl, rfl⟩ := twB_ex hc
      have hcc2 := hc2
      obtain ⟨m, hm1, hm, rfl⟩ := rch_ex hc2
      have hz : setF O S (nI a) (nI b) (nI m) = stF O S a b m := by unfold setF; rw [if_pos (by rw [hcc, hcc2] <;> rfl), nI_clamp (show a < 2 ^ 31 by omega), nI_clamp (show b < 2 ^ 31 by omega), nI_clamp (show m < 2 ^ 31 by omega)]
      refine ar_go M_B_settle 2 _ 19 _ [some (.ref 0), some (.int (nI a)), some (.int (nI b)), some (.int (nI m))] _ [.ref 0, .ref 0] rfl ?_
      refine ar_get M_B_settle rfl rfl hC.1 rfl ?_
      refine ar_go M_B_settle 1 _ 23 _ [some (.ref 0), some (.int (nI a)), some (.int (nI b)), some (.int (nI m))] _ [.int (nI a), .ref 1, .ref 0] rfl ?_
      refine ar_aald M_B_settle rfl hb1 (Or.inr rfl) (vp_in_nI (by omega) (by decide)) (by rw [nI_clamp (n := a) (by omega)]; exact hbf a (by omega)) ?_
      refine ar_go M_B_settle 1 _ 25 _ [some (.ref 0), some (.int (nI a)), some (.int (nI b)), some (.int (nI m))] _ [.ref 0, .ref (40 + 4 * a), .ref 0] rfl ?_
      refine ar_get M_B_settle rfl rfl hC.1 rfl ?_
      refine ar_go M_B_settle 1 _ 29 _ [some (.ref 0), some (.int (nI a)), some (.int (nI b)), some (.int (nI m))] _ [.int (nI b), .ref 1, .ref (40 + 4 * a), .ref 0] rfl ?_
      refine ar_aald M_B_settle rfl hb1 (Or.inr rfl) (vp_in_nI (by omega) (by decide)) (by rw [nI_clamp (n := b) (by omega)]; exact hbf b (by omega)) ?_
      refine ar_go M_B_settle 1 _ 31 _ [some (.ref 0), some (.int (nI a)), some (.int (nI b)), some (.int (nI m))] _ [.int (nI m), .ref (40 + 4 * b), .ref (40 + 4 * a), .ref 0] rfl ?_
      refine ar_CV M_B_settle rfl rfl (Or.inl rfl) rfl rfl (Nat.le_of_ble_eq_true rfl) hC.1 M_B_runSettling (Nat.le_of_ble_eq_true rfl) (c_B_runSettling O hOk hE X d _ hC ha hb hne (m := m) (by omega) (by omega)) (fun r1 h2 hq => ?_)
      obtain ⟨rfl, hC2, hf2⟩ := hq
      refine ⟨hf2.1, ?_⟩
      show ar Pg _ _ _ 34 [some (.ref 0), some (.int (nI a)), some (.int (nI b)), some (.int (nI m))] [.int ((stF O S a b m).1)] _ _
      exact ar_R M_B_settle rfl rfl rfl rfl (⟨by rw [hz], by rw [hz]; exact hC2, hf2⟩)
    · have hc2 := bi_ne_f hc2
      have hz : setF O S v w x = (-1, S) := by unfold setF; rw [if_neg (by rw [hc2, Bool.and_false]; decide)]
      refine ar_go M_B_settle 1 _ 16 _ [some (.ref 0), some (.int v), some (.int w), some (.int x)] _ [.int (-1)] rfl ?_
      exact ar_R M_B_settle rfl rfl rfl rfl (⟨by rw [hz] <;> rfl, by rw [hz]; exact hC, fr.rf _ _⟩)
theorem c_B_list (X : am_X) (d : Nat) (h : am_H) {S : Sg} (hC : isS h S) (v w : Int32) : ar Pg X (d + 1 + 1 + 1 + 1 + 1) n_B_list 0 [some (.ref 0), some (.int v), some (.int w)] [] h (fun rr h' => rr = some (.int (listF S v w).1) ∧ isS h' (listF S v w).2 ∧ fr clL h h') := by
  obtain ⟨bf, hb1, hbf⟩ := hC.2.1
  refine ar_go M_B_list 2 _ 2 _ [some (.ref 0), some (.int v), some (.int w)] _ [.int w, .int v] rfl ?_
  refine ar_CS M_B_list rfl rfl (Nat.le_of_ble_eq_true rfl) rfl rfl (Nat.le_of_ble_eq_true rfl) M_B_areTwoBanks (Nat.le_of_ble_eq_true rfl) (c_B_areTwoBanks X (d + 1 + 1 + 1) _ v w) (fun r1 h1 hq => ?_)
  obtain ⟨rfl, rfl⟩ := hq
  refine ⟨rfl, ?_⟩
  show ar Pg _ _ _ 5 [some (.ref 0), some (.int v), some (.int w)] [.int (bi (twB v w))] _ _
  refine ar_if M_B_list rfl rfl (fun hc => ?_) (fun hc => ?_)
  · have hc := bi_ne_t hc
    have hcc := hc
    obtain ⟨a, b, ha, hb, hne, rfl, rfl⟩ := twB_ex hc
    have hz : listF S (nI a) (nI b) = lsF S a b := by unfold listF; rw [if_pos (by rw [hcc] <;> rfl), nI_clamp (show a < 2 ^ 31 by omega), nI_clamp (show b < 2 ^ 31 by omega)]
    refine ar_go M_B_list 2 _ 12 _ [some (.ref 0), some (.int (nI a)), some (.int (nI b))] _ [.ref 0, .ref 0] rfl ?_
    refine ar_get M_B_list rfl rfl hC.1 rfl ?_
    refine ar_go M_B_list 1 _ 16 _ [some (.ref 0), some (.int (nI a)), some (.int (nI b))] _ [.int (nI a), .ref 1, .ref 0] rfl ?_
    refine ar_aald M_B_list rfl hb1 (Or.inr rfl) (vp_in_nI (by omega) (by decide)) (by rw [nI_clamp (n := a) (by omega)]; exact hbf a (by omega)) ?_
    refine ar_go M_B_list 1 _ 18 _ [some (.ref 0), some (.int (nI a)), some (.int (nI b))] _ [.ref 0, .ref (40 + 4 * a), .ref 0] rfl ?_
    refine ar_get M_B_list rfl rfl hC.1 rfl ?_
    refine ar_go M_B_list 1 _ 22 _ [some (.ref 0), some (.int (nI a)), some (.int (nI b))] _ [.int (nI b), .ref 1, .ref (40 + 4 * a), .ref 0] rfl ?_
    refine ar_aald M_B_list rfl hb1 (Or.inr rfl) (vp_in_nI (by omega) (by decide)) (by rw [nI_clamp (n := b) (by omega)]; exact hbf b (by omega)) ?_
    refine ar_CV M_B_list rfl rfl (Or.inl rfl) rfl rfl (Nat.le_of_ble_eq_true rfl) hC.1 M_B_runListing (Nat.le_of_ble_eq_true rfl) (c_B_runListing X d _ hC ha hb hne) (fun r1 h2 hq => ?_)
    obtain ⟨rfl, hC2, hf2⟩ := hq
    refine ⟨hf2.1, ?_⟩
    show ar Pg _ _ _ 26 [some (.ref 0), some (.int (nI a)), some (.int (nI b))] [.int ((lsF S a b).1)] _ _
    exact ar_R M_B_list rfl rfl rfl rfl (⟨by rw [hz], by rw [hz]; exact hC2, hf2⟩)
  · have hc := bi_ne_f hc
    have hz : listF S v w = (-1, S) := by unfold listF; rw [if_neg (by rw [hc]; decide)]
    refine ar_go M_B_list 1 _ 9 _ [some (.ref 0), some (.int v), some (.int w)] _ [.int (-1)] rfl ?_
    exact ar_R M_B_list rfl rfl rfl rfl (⟨by rw [hz] <;> rfl, by rw [hz]; exact hC, fr.rf _ _⟩)
def sp1 (i : Nat) : Nat := match i with
  | 1 => 2
  | 3 => 2
  | _ => 0
def sp2 (i : Nat) : Nat := match i with
  | 0 => 1
  | 1 => 3
  | 2 => 2
  | 3 => 3
  | _ => 1
def spF (O : exT) (m : Nat) : Nat → Nat → Int32 → Sg → Int32 × Sg
  | 0, _, t, S => (t, S)
  | n + 1, i, t, S => if (stF O S (sp1 i) (sp2 i) m).1 = -3 then (-3, (stF O S (sp1 i) (sp2 i) m).2) else spF O m n (i + 1) (t + (stF O S (sp1 i) (sp2 i) m).1) (stF O S (sp1 i) (sp2 i) m).2
def sprF (O : exT) (S : Sg) (v : Int32) : Int32 × Sg := if rch v = true then spF O v.toNatClampNeg 5 0 0 S else (-1, S)
theorem sp_ok : ∀ i, i < 5 → sp1 i < 4 ∧ sp2 i < 4 ∧ sp1 i ≠ sp2 i ∧ am_s1 i = nI (sp1 i) ∧ am_s2 i = nI (sp2 i) := by decide
theorem c_B_sp_loop (O : exT) (hOk : clOk O) (hE : eu_law) (X : am_X) (hX1 : X 1 = (5, am_s1)) (hX2 : X 2 = (5, am_s2)) (d : Nat) (h : am_H) {m : Nat} (hm1 : 1 ≤ m) (hm : m ≤ 16) : ∀ (n i : Nat) (t : Int32) (S : Sg) (h1 : am_H) (x4 : Option Value), i + n = 5 → isS h1 S → fr clL h h1 → ar Pg X (d + 1 + 1 + 1 + 1 + 1 + 1) n_B_spread 13 [some (.ref 0), some (.int (nI m)), some (.int t), some (.int (nI i)), x4] [] h1 (fun rr h' => rr = some (.int (spF O m n i t S).1) ∧ isS h' (spF O m n i t S).2 ∧ fr clL h h') := by
  intro n
  induction n with
  | zero =>
    intro i t S h1 x4 hi hC hF
    have hi5 : i = 5 := by omega
    subst hi5
    refine ar_go M_B_spread 2 _ 17 _ [some (.ref 0), some (.int (nI m)), some (.int t), some (.int (nI 5)), x4] _ [.ref (am_x0 + 1), .int (nI 5)] rfl ?_
    refine ar_xlen M_B_spread rfl (by decide) ?_
    rw [hX1]
    refine ar_icmp M_B_spread rfl rfl (fun _ => ?_) (fun z => absurd z (by decide))
    refine ar_go M_B_spread 1 _ 70 _ [some (.ref 0), some (.int (nI m)), some (.int t), some (.int (nI 5)), x4] _ [.int t] rfl ?_
    exact ar_R M_B_spread rfl rfl rfl rfl ⟨rfl, hC, hF⟩
  | succ n ih =>
    intro i t S h1 x4 hi hC hF
    obtain ⟨bf, hb1, hbf⟩ := hC.2.1
    refine ar_go M_B_spread 2 _ 17 _ [some (.ref 0), some (.int (nI m)), some (.int t), some (.int (nI i)), x4] _ [.ref (am_x0 + 1), .int (nI i)] rfl ?_
    refine ar_xlen M_B_spread rfl (by decide) ?_
    rw [hX1]
    refine ar_icmp M_B_spread rfl rfl (fun hc => ?_) (fun hc => ?_)
    · have hc := c2_ge_t (a := i) (b := 5) (by omega) (by omega) hc
      omega
    · have hc := c2_ge_f (a := i) (b := 5) (by omega) (by omega) hc
      obtain ⟨hs1, hs2, hne, hq1, hq2⟩ := sp_ok i (by omega)
      refine ar_go M_B_spread 2 _ 23 _ [some (.ref 0), some (.int (nI m)), some (.int t), some (.int (nI i)), x4] _ [.ref 0, .ref 0] rfl ?_
      refine ar_get M_B_spread rfl rfl hC.1 rfl ?_
      refine ar_go M_B_spread 2 _ 30 _ [some (.ref 0), some (.int (nI m)), some (.int t), some (.int (nI i)), x4] _ [.int (nI i), .ref (am_x0 + 1), .ref 1, .ref 0] rfl ?_
      refine ar_xald M_B_spread rfl (by decide) (by rw [hX1]; exact vp_in_nI (by omega) (by decide)) ?_
      rw [hX1, nI_clamp (n := i) (by omega)]
      refine ar_top (w := .int (nI (sp1 i))) (congrArg Value.int hq1) ?_
      refine ar_aald M_B_spread rfl hb1 (Or.inr rfl) (vp_in_nI (by omega) (by decide)) (by rw [nI_clamp (n := (sp1 i)) (by omega)]; exact hbf (sp1 i) (by omega)) ?_
      refine ar_go M_B_spread 1 _ 33 _ [some (.ref 0), some (.int (nI m)), some (.int t), some (.int (nI i)), x4] _ [.ref 0, .ref (40 + 4 * (sp1 i)), .ref 0] rfl ?_
      refine ar_get M_B_spread rfl rfl hC.1 rfl ?_
      refine ar_go M_B_spread 2 _ 40 _ [some (.ref 0), some (.int (nI m)), some (.int t), some (.int (nI i)), x4] _ [.int (nI i), .ref (am_x0 + 2), .ref 1, .ref (40 + 4 * (sp1 i)), .ref 0] rfl ?_
      refine ar_xald M_B_spread rfl (by decide) (by rw [hX2]; exact vp_in_nI (by omega) (by decide)) ?_
      rw [hX2, nI_clamp (n := i) (by omega)]
      refine ar_top (w := .int (nI (sp2 i))) (congrArg Value.int hq2) ?_
      refine ar_aald M_B_spread rfl hb1 (Or.inr rfl) (vp_in_nI (by omega) (by decide)) (by rw [nI_clamp (n := (sp2 i)) (by omega)]; exact hbf (sp2 i) (by omega)) ?_
      refine ar_go M_B_spread 1 _ 43 _ [some (.ref 0), some (.int (nI m)), some (.int t), some (.int (nI i)), x4] _ [.int (nI m), .ref (40 + 4 * (sp2 i)), .ref (40 + 4 * (sp1 i)), .ref 0] rfl ?_
      refine ar_CV M_B_spread rfl rfl (Or.inl rfl) rfl rfl (Nat.le_of_ble_eq_true rfl) hC.1 M_B_runSettling (Nat.le_of_ble_eq_true rfl) (c_B_runSettling O hOk hE X d _ hC hs1 hs2 hne hm1 hm) (fun r1 h2 hq => ?_)
      obtain ⟨rfl, hC2, hf2⟩ := hq
      refine ⟨hf2.1, ?_⟩
      show ar Pg _ _ _ 46 [some (.ref 0), some (.int (nI m)), some (.int t), some (.int (nI i)), x4] [.int ((stF O S (sp1 i) (sp2 i) m).1)] _ _
      refine ar_go M_B_spread 3 _ 52 _ [some (.ref 0), some (.int (nI m)), some (.int t), some (.int (nI i)), some (.int ((stF O S (sp1 i) (sp2 i) m).1))] _ [.int (-3), .int ((stF O S (sp1 i) (sp2 i) m).1)] rfl ?_
      refine ar_icmp M_B_spread rfl rfl (fun hc2 => ?_) (fun hc2 => ?_)
      · have hc2 : ¬ (stF O S (sp1 i) (sp2 i) m).1 = -3 := of_decide_eq_true hc2
        refine ar_go M_B_spread 4 _ 63 _ [some (.ref 0), some (.int (nI m)), some (.int (t + ((stF O S (sp1 i) (sp2 i) m).1))), some (.int (nI i)), some (.int ((stF O S (sp1 i) (sp2 i) m).1))] _ [] rfl ?_
        refine ar_go M_B_spread 1 _ 66 _ [some (.ref 0), some (.int (nI m)), some (.int (t + ((stF O S (sp1 i) (sp2 i) m).1))), some (.int (nI i + Int32.ofInt 1)), some (.int ((stF O S (sp1 i) (sp2 i) m).1))] _ [] rfl ?_
        rw [show nI i + Int32.ofInt 1 = nI (i + 1) from nI_add i 1]
        refine ar_go M_B_spread 1 _ 13 _ [some (.ref 0), some (.int (nI m)), some (.int (t + ((stF O S (sp1 i) (sp2 i) m).1))), some (.int (nI (i + 1))), some (.int ((stF O S (sp1 i) (sp2 i) m).1))] _ [] rfl ?_
        rw [spF, if_neg hc2]
        exact ih (i + 1) _ _ h2 _ (by omega) hC2 (hF.tr hf2 (fun _ z => z) (fun _ z => z))
      · have hc2 : (stF O S (sp1 i) (sp2 i) m).1 = -3 := Decidable.not_not.mp (of_decide_eq_false hc2)
        refine ar_go M_B_spread 1 _ 57 _ [some (.ref 0), some (.int (nI m)), some (.int t), some (.int (nI i)), some (.int ((stF O S (sp1 i) (sp2 i) m).1))] _ [.int (-3)] rfl ?_
        exact ar_R M_B_spread rfl rfl rfl rfl (⟨by rw [spF, if_pos hc2] <;> rfl, by rw [spF, if_pos hc2]; exact hC2, hF.tr hf2 (fun _ z => z) (fun _ z => z)⟩)
theorem c_B_spread (O : exT) (hOk : clOk O) (hE : eu_law) (X : am_X) (hX1 : X 1 = (5, am_s1)) (hX2 : X 2 = (5, am_s2)) (d : Nat) (h : am_H) {S : Sg} (hC : isS h S) (v : Int32) : ar Pg X (d + 1 + 1 + 1 + 1 + 1 + 1) n_B_spread 0 [some (.ref 0), some (.int v), none, none, none] [] h (fun rr h' => rr = some (.int (sprF O S v).1) ∧ isS h' (sprF O S v).2 ∧ fr clL h h') := by
  refine ar_go M_B_spread 1 _ 1 _ [some (.ref 0), some (.int v), none, none, none] _ [.int v] rfl ?_
  refine ar_CS M_B_spread rfl rfl (Nat.le_of_ble_eq_true rfl) rfl rfl (Nat.le_of_ble_eq_true rfl) M_B_isReach (Nat.le_of_ble_eq_true rfl) (c_B_isReach X (d + 1 + 1 + 1 + 1 + 1) _ v) (fun r1 h1 hq => ?_)
  obtain ⟨rfl, rfl⟩ := hq
  refine ⟨rfl, ?_⟩
  show ar Pg _ _ _ 4 [some (.ref 0), some (.int v), none, none, none] [.int (bi (rch v))] _ _
  refine ar_if M_B_spread rfl rfl (fun hc => ?_) (fun hc => ?_)
  · have hc := bi_ne_t hc
    have hcc := hc
    obtain ⟨m, hm1, hm, rfl⟩ := rch_ex hc
    rw [show sprF O S (nI m) = spF O m 5 0 0 S by unfold sprF; rw [if_pos hcc, nI_clamp (show m < 2 ^ 31 by omega)]]
    refine ar_go M_B_spread 4 _ 13 _ [some (.ref 0), some (.int (nI m)), some (.int (nI 0)), some (.int (nI 0)), none] _ [] rfl ?_
    exact c_B_sp_loop O hOk hE X hX1 hX2 d _ hm1 hm 5 0 (nI 0) S _ none rfl hC (fr.rf _ _)
  · have hc := bi_ne_f hc
    have hz : sprF O S v = (-1, S) := by unfold sprF; rw [if_neg (by rw [hc]; decide)]
    refine ar_go M_B_spread 1 _ 8 _ [some (.ref 0), some (.int v), none, none, none] _ [.int (-1)] rfl ?_
    exact ar_R M_B_spread rfl rfl rfl rfl (⟨by rw [hz] <;> rfl, by rw [hz]; exact hC, fr.rf _ _⟩)
end
section
/-! The reference: banks -/
def isM0 (h : am_H) (s : Int64) (ud ld pr uD lD nd tn : Int32) : Prop := h[56]? = some (.inr (5, [.ref 57, .ref 58, .ref 59, .ref 60, .ref 61, .long s, .ref 62, .ref 63, .int ud, .int ld, .int pr, .ref 64, .ref 65, .ref 66, .ref 67, .int uD, .int lD, .ref 68, .ref 69, .ref 70, .int nd, .int tn, .ref 71, .ref 72, .ref 73, .ref 74, .ref 75]))
/-- the reference's five arrays -/
def isMa (h : am_H) (sz nu ve gr dr : Nat → Int32) : Prop := h[57]? = some (.inl (0, 4, .inl sz)) ∧ h[58]? = some (.inl (0, 256, .inl nu)) ∧ h[59]? = some (.inl (0, 256, .inl ve)) ∧ h[60]? = some (.inl (0, 256, .inl gr)) ∧ h[61]? = some (.inl (2, 256, .inl dr))
/-- they hold the banks -/
def isMc (B : Nat → Bk) (sz nu ve gr dr : Nat → Int32) : Prop := ∀ b, b < 4 → sz b = nI (B b).length ∧ gB (B b) ∧ ∀ i, i < (B b).length → nu (64 * b + i) = nI (wd (B b) i / 1024) ∧ ve (64 * b + i) = nI (wd (B b) i % 1024) ∧ gr (64 * b + i) = gd (B b) i ∧ dr (64 * b + i) = bi (dd (B b) i)
def isMb (h : am_H) (B : Nat → Bk) : Prop := ∃ sz nu ve gr dr, isMa h sz nu ve gr dr ∧ isMc B sz nu ve gr dr
theorem isMa.mv {h h1 : am_H} {sz nu ve gr dr : Nat → Int32} {l : List Nat} (H : isMa h sz nu ve gr dr) (hf : fr l h h1) (hl : ∀ k, 57 ≤ k → k < 62 → k ∉ l) : isMa h1 sz nu ve gr dr :=
  ⟨hf.at H.1 (hl _ (by omega) (by omega)), hf.at H.2.1 (hl _ (by omega) (by omega)), hf.at H.2.2.1 (hl _ (by omega) (by omega)), hf.at H.2.2.2.1 (hl _ (by omega) (by omega)), hf.at H.2.2.2.2 (hl _ (by omega) (by omega))⟩
theorem isMb.mv {h h1 : am_H} {B : Nat → Bk} {l : List Nat} (H : isMb h B) (hf : fr l h h1) (hl : ∀ k, 57 ≤ k → k < 62 → k ∉ l) : isMb h1 B := by
  obtain ⟨sz, nu, ve, gr, dr, a, b⟩ := H
  exact ⟨sz, nu, ve, gr, dr, a.mv hf hl, b⟩
def fnI (l : Bk) (b n : Nat) : Nat → Int32
  | 0 => -1
  | i + 1 => if wd l i / 1024 = n then nI (64 * b + i) else fnI l b n i
def fnR (l : Bk) (b n : Nat) : Int32 := if hasAt l (pos l n) n = true then nI (64 * b + pos l n) else -1
theorem fnI_eq {l : Bk} (hS : bkS l) (b n : Nat) : ∀ i, i ≤ l.length → fnI l b n i = if pos l n < i ∧ wd l (pos l n) / 1024 = n then nI (64 * b + pos l n) else -1
  | 0, _ => by rw [fnI, if_neg (fun z => Nat.not_lt_zero _ z.1)]
  | i + 1, hi => by
    have hp := pos_pl l n hS
    rw [fnI, fnI_eq hS b n i (by omega)]
    by_cases h : wd l i / 1024 = n
    · have hpi : pos l n = i := by
        rcases Nat.lt_trichotomy (pos l n) i with c | c | c
        · have a := hp.2.2 (pos l n) (Nat.le_refl _) (by omega)
          have b := hS (pos l n) i c (by omega)
          omega
        · exact c
        · have a := hp.2.1 i c
          omega
      rw [if_pos h, hpi, if_pos ⟨by omega, h⟩]
    · rw [if_neg h]
      by_cases c : pos l n < i ∧ wd l (pos l n) / 1024 = n
      · rw [if_pos c, if_pos ⟨by omega, c.2⟩]
      · rw [if_neg c, if_neg (fun z => c ⟨by
          have z1 := z.1
          by_cases e : pos l n = i
          · rw [e] at z; exact absurd z.2 h
          · omega, z.2⟩)]
theorem fnI_R {l : Bk} (hS : bkS l) (b n : Nat) : fnI l b n l.length = fnR l b n := by
  rw [fnI_eq hS b n _ (Nat.le_refl _), fnR]
  by_cases h : hasAt l (pos l n) n = true
  · rw [if_pos h, if_pos (hasAt_iff.mp h)]
  · rw [if_neg h, if_neg (fun z => h (hasAt_iff.mpr z))]
theorem c_M_fn_loop (X : am_X) (d : Nat) (h : am_H) {B : Nat → Bk} {s : Int64} {ud ld pr uD lD nd tn : Int32} (h56 : isM0 h s ud ld pr uD lD nd tn) (hB : isMb h B) {b n : Nat} (hb : b < 4) (hn : n < 2 ^ 31) : ∀ (k i : Nat), (B b).length - i < k → i ≤ (B b).length → ar Pg X d n_M_find 8 [some (.ref 56), some (.int (nI b)), some (.int (nI n)), some (.int (fnI (B b) b n i)), some (.int (nI (64 * b + i)))] [] h (fun rr h' => rr = some (.int (fnR (B b) b n)) ∧ h' = h) := by
  obtain ⟨sz, nu, ve, gr, dr, ⟨h57, h58, h59, h60, h61⟩, hc0⟩ := hB
  unfold isM0 at h56
  have hcb := hc0 b hb
  have hlb := hcb.2.1.1
  intro k
  induction k with
  | zero => intro i hk; omega
  | succ k ih =>
    intro i hk hil
    refine ar_go M_M_find 4 _ 14 _ [some (.ref 56), some (.int (nI b)), some (.int (nI n)), some (.int (fnI (B b) b n i)), some (.int (nI (64 * b + i)))] _ [.int (nI 64 * nI b), .int (nI (64 * b + i))] rfl ?_
    refine ar_top (w := .int (nI (64 * b))) (congrArg Value.int (pk_mul 64 b)) ?_
    refine ar_go M_M_find 1 _ 15 _ [some (.ref 56), some (.int (nI b)), some (.int (nI n)), some (.int (fnI (B b) b n i)), some (.int (nI (64 * b + i)))] _ [.ref 56, .int (nI (64 * b)), .int (nI (64 * b + i))] rfl ?_
    refine ar_get M_M_find rfl rfl h56 rfl ?_
    refine ar_go M_M_find 1 _ 19 _ [some (.ref 56), some (.int (nI b)), some (.int (nI n)), some (.int (fnI (B b) b n i)), some (.int (nI (64 * b + i)))] _ [.int (nI b), .ref 57, .int (nI (64 * b)), .int (nI (64 * b + i))] rfl ?_
    refine ar_iald M_M_find rfl (by unfold am_x0; omega) h57 (vp_in_nI (by omega) (by decide)) ?_
    rw [nI_clamp (n := b) (by omega)]
    refine ar_top (w := .int (nI ((B b).length))) (congrArg Value.int hcb.1) ?_
    refine ar_go M_M_find 1 _ 21 _ [some (.ref 56), some (.int (nI b)), some (.int (nI n)), some (.int (fnI (B b) b n i)), some (.int (nI (64 * b + i)))] _ [.int (nI (64 * b) + nI ((B b).length)), .int (nI (64 * b + i))] rfl ?_
    refine ar_top (w := .int (nI ((64 * b) + ((B b).length)))) (congrArg Value.int (nI_add (64 * b) ((B b).length))) ?_
    refine ar_icmp M_M_find rfl rfl (fun hc => ?_) (fun hc => ?_)
    · have hc := c2_ge_t (a := (64 * b + i)) (b := ((64 * b) + ((B b).length))) (by omega) (by omega) hc
      have hi2 : i = (B b).length := by omega
      refine ar_go M_M_find 1 _ 49 _ [some (.ref 56), some (.int (nI b)), some (.int (nI n)), some (.int (fnI (B b) b n i)), some (.int (nI (64 * b + i)))] _ [.int (fnI (B b) b n i)] rfl ?_
      exact ar_R M_M_find rfl rfl rfl rfl (⟨by rw [hi2, fnI_R hcb.2.1.2.1], rfl⟩)
    · have hc := c2_ge_f (a := (64 * b + i)) (b := ((64 * b) + ((B b).length))) (by omega) (by omega) hc
      have hwi := hcb.2.1.2.2.W i (by omega)
      refine ar_go M_M_find 1 _ 25 _ [some (.ref 56), some (.int (nI b)), some (.int (nI n)), some (.int (fnI (B b) b n i)), some (.int (nI (64 * b + i)))] _ [.ref 56] rfl ?_
      refine ar_get M_M_find rfl rfl h56 rfl ?_
      refine ar_go M_M_find 1 _ 30 _ [some (.ref 56), some (.int (nI b)), some (.int (nI n)), some (.int (fnI (B b) b n i)), some (.int (nI (64 * b + i)))] _ [.int (nI (64 * b + i)), .ref 58] rfl ?_
      refine ar_iald M_M_find rfl (by unfold am_x0; omega) h58 (vp_in_nI (by omega) (by decide)) ?_
      rw [nI_clamp (n := (64 * b + i)) (by omega)]
      refine ar_top (w := .int (nI (wd (B b) i / 1024))) (congrArg Value.int ((hcb.2.2 i (by omega)).1)) ?_
      refine ar_go M_M_find 1 _ 32 _ [some (.ref 56), some (.int (nI b)), some (.int (nI n)), some (.int (fnI (B b) b n i)), some (.int (nI (64 * b + i)))] _ [.int (nI n), .int (nI (wd (B b) i / 1024))] rfl ?_
      refine ar_icmp M_M_find rfl rfl (fun hc2 => ?_) (fun hc2 => ?_)
      · have hc2 := c2_ne_t (a := (wd (B b) i / 1024)) (b := n) (by omega) (by omega) hc2
        refine ar_go M_M_find 2 _ 42 _ [some (.ref 56), some (.int (nI b)), some (.int (nI n)), some (.int (fnI (B b) b n i)), some (.int (nI (64 * b + i)))] _ [] rfl ?_
        refine ar_go M_M_find 1 _ 45 _ [some (.ref 56), some (.int (nI b)), some (.int (nI n)), some (.int (fnI (B b) b n i)), some (.int (nI (64 * b + i) + Int32.ofInt 1))] _ [] rfl ?_
        rw [show nI (64 * b + i) + Int32.ofInt 1 = nI ((64 * b + i) + 1) from nI_add (64 * b + i) 1]
        refine ar_go M_M_find 1 _ 8 _ [some (.ref 56), some (.int (nI b)), some (.int (nI n)), some (.int (fnI (B b) b n i)), some (.int (nI ((64 * b + i) + 1)))] _ [] rfl ?_
        have hq : fnI (B b) b n i = fnI (B b) b n (i + 1) := by rw [fnI, if_neg hc2]
        rw [hq]
        exact ih (i + 1) (by omega) (by omega)
      · have hc2 := c2_ne_f (a := (wd (B b) i / 1024)) (b := n) (by omega) (by omega) hc2
        refine ar_go M_M_find 3 _ 42 _ [some (.ref 56), some (.int (nI b)), some (.int (nI n)), some (.int (nI (64 * b + i))), some (.int (nI (64 * b + i)))] _ [] rfl ?_
        refine ar_go M_M_find 1 _ 45 _ [some (.ref 56), some (.int (nI b)), some (.int (nI n)), some (.int (nI (64 * b + i))), some (.int (nI (64 * b + i) + Int32.ofInt 1))] _ [] rfl ?_
        rw [show nI (64 * b + i) + Int32.ofInt 1 = nI ((64 * b + i) + 1) from nI_add (64 * b + i) 1]
        refine ar_go M_M_find 1 _ 8 _ [some (.ref 56), some (.int (nI b)), some (.int (nI n)), some (.int (nI (64 * b + i))), some (.int (nI ((64 * b + i) + 1)))] _ [] rfl ?_
        have hq : nI (64 * b + i) = fnI (B b) b n (i + 1) := by rw [fnI, if_pos hc2]
        rw [hq]
        exact ih (i + 1) (by omega) (by omega)
theorem c_M_find (X : am_X) (d : Nat) (h : am_H) {B : Nat → Bk} {s : Int64} {ud ld pr uD lD nd tn : Int32} (h56 : isM0 h s ud ld pr uD lD nd tn) (hB : isMb h B) {b n : Nat} (hb : b < 4) (hn : n < 2 ^ 31) : ar Pg X d n_M_find 0 [some (.ref 56), some (.int (nI b)), some (.int (nI n)), none, none] [] h (fun rr h' => rr = some (.int (fnR (B b) b n)) ∧ h' = h) := by
  refine ar_go M_M_find 5 _ 6 _ [some (.ref 56), some (.int (nI b)), some (.int (nI n)), some (.int (-1)), none] _ [.int (nI 64 * nI b)] rfl ?_
  refine ar_top (w := .int (nI (64 * b))) (congrArg Value.int (pk_mul 64 b)) ?_
  refine ar_go M_M_find 1 _ 8 _ [some (.ref 56), some (.int (nI b)), some (.int (nI n)), some (.int (-1)), some (.int (nI (64 * b)))] _ [] rfl ?_
  exact c_M_fn_loop X d h h56 hB hb hn ((B b).length + 1) 0 (by omega) (by omega)
/-- from i to n the places have moved up by one -/
def shg (f f0 : Nat → Int32) (i n : Nat) : Prop := shf f f0 i n ∧ ∀ j, n < j → f j = f0 j
theorem shg.step {f f0 : Nat → Int32} {i n : Nat} (h : shg f f0 (i + 1) n) (hi : i + 1 ≤ n) : shg (upd f (i + 1) (f i)) f0 i n :=
  ⟨h.1.step hi, fun j hj => by rw [pk_un (by omega)]; exact h.2 j hj⟩
theorem shg.rf (f : Nat → Int32) (n : Nat) : shg f f n n := ⟨⟨fun _ _ => rfl, fun j h1 h2 => by omega⟩, fun _ _ => rfl⟩
theorem nI_pr1 (b q : Nat) : nI (64 * b + (q + 1)) - nI 1 = nI (64 * b + q) := by
  rw [← Nat.add_assoc]
  exact nI_pred (64 * b + q)
theorem c_M_in_loop (X : am_X) (d : Nat) (h : am_H) {B : Nat → Bk} {s : Int64} {ud ld pr uD lD nd tn : Int32} {sz nu0 ve0 gr0 dr0 : Nat → Int32} (hc0 : isMc B sz nu0 ve0 gr0 dr0) {b n : Nat} (hb : b < 4) (hn : n < 2 ^ 31) (hlen : (B b).length < 64) (hno : hasAt (B b) (pos (B b) n) n = false) {Q : Option Value → am_H → Prop}
    (K : ∀ (h1 : am_H) (nu ve gr dr : Nat → Int32), shg nu nu0 (64 * b + pos (B b) n) (64 * b + (B b).length) → shg ve ve0 (64 * b + pos (B b) n) (64 * b + (B b).length) → shg gr gr0 (64 * b + pos (B b) n) (64 * b + (B b).length) → shg dr dr0 (64 * b + pos (B b) n) (64 * b + (B b).length) → True → isMa h1 sz nu ve gr dr → isM0 h1 s ud ld pr uD lD nd tn → fr [58, 59, 60, 61] h h1 → ar Pg X d n_M_insert 94 [some (.ref 56), some (.int (nI b)), some (.int (nI n)), some (.int (nI (64 * b + pos (B b) n)))] [] h1 Q) :
    ∀ (k q : Nat) (h1 : am_H) (nu ve gr dr : Nat → Int32), q ≤ k → q ≤ (B b).length → pos (B b) n ≤ q → shg nu nu0 (64 * b + q) (64 * b + (B b).length) → shg ve ve0 (64 * b + q) (64 * b + (B b).length) → shg gr gr0 (64 * b + q) (64 * b + (B b).length) → shg dr dr0 (64 * b + q) (64 * b + (B b).length) → isMa h1 sz nu ve gr dr → isM0 h1 s ud ld pr uD lD nd tn → fr [58, 59, 60, 61] h h1 → ar Pg X d n_M_insert 12 [some (.ref 56), some (.int (nI b)), some (.int (nI n)), some (.int (nI (64 * b + q)))] [] h1 Q := by
  have hpl := pos_pl (B b) n (hc0 b hb).2.1.2.1
  have hlow : ∀ q, n < wd (B b) q / 1024 → q < (B b).length → pos (B b) n ≤ q := fun q h1 h2 => by
    rcases Nat.lt_or_ge q (pos (B b) n) with c | c
    · have := hpl.2.1 q c
      omega
    · exact c
  have hstop : ∀ q, wd (B b) q / 1024 ≤ n → q < (B b).length → pos (B b) n ≤ q + 1 → pos (B b) n = q + 1 := fun q h1 h2 h3 => by
    rcases Nat.lt_or_ge q (pos (B b) n) with c | c
    · omega
    · have a := hpl.2.2 q c h2
      have e : wd (B b) q / 1024 = n := by omega
      by_cases e2 : pos (B b) n = q
      · rw [e2] at hno
        rw [hasAt_iff.mpr ⟨h2, e⟩] at hno
        exact absurd hno (by decide)
      · have a2 := hpl.2.2 (pos (B b) n) (Nat.le_refl _) (by omega)
        have a3 := (hc0 b hb).2.1.2.1 (pos (B b) n) q (by omega) h2
        omega
  intro k
  induction k with
  | zero =>
    intro q h1 nu ve gr dr hk hql hpq s1 s2 s3 s4 hA h56 hF
    have hq0 : q = 0 := by omega
    subst hq0
    have hqp : pos (B b) n = 0 := by omega
    rw [hqp] at K
    refine ar_go M_M_insert 4 _ 17 _ [some (.ref 56), some (.int (nI b)), some (.int (nI n)), some (.int (nI (64 * b + 0)))] _ [.int (nI 64 * nI b), .int (nI (64 * b + 0))] rfl ?_
    refine ar_top (w := .int (nI (64 * b))) (congrArg Value.int (pk_mul 64 b)) ?_
    refine ar_icmp M_M_insert rfl rfl (fun _ => K h1 nu ve gr dr s1 s2 s3 s4 trivial hA h56 hF) (fun z => ?_)
    have z := c2_le_f (a := 64 * b + 0) (b := 64 * b) (by omega) (by omega) z
    omega
  | succ k ih =>
    intro q h1 nu ve gr dr hk hql hpq s1 s2 s3 s4 hA h56 hF
    unfold isM0 at h56
    obtain ⟨h57, h58, h59, h60, h61⟩ := hA
    refine ar_go M_M_insert 4 _ 17 _ [some (.ref 56), some (.int (nI b)), some (.int (nI n)), some (.int (nI (64 * b + q)))] _ [.int (nI 64 * nI b), .int (nI (64 * b + q))] rfl ?_
    refine ar_top (w := .int (nI (64 * b))) (congrArg Value.int (pk_mul 64 b)) ?_
    refine ar_icmp M_M_insert rfl rfl (fun hc => ?_) (fun hc => ?_)
    · have hc := c2_le_t (a := (64 * b + q)) (b := (64 * b)) (by omega) (by omega) hc
      have hq0 : q = 0 := by omega
      have hqp : pos (B b) n = q := by omega
      rw [hqp] at K
      exact K h1 nu ve gr dr s1 s2 s3 s4 trivial ⟨h57, h58, h59, h60, h61⟩ h56 hF
    · have hc := c2_le_f (a := (64 * b + q)) (b := (64 * b)) (by omega) (by omega) hc
      obtain ⟨q, rfl⟩ : ∃ q2, q = q2 + 1 := ⟨q - 1, by omega⟩
      refine ar_go M_M_insert 1 _ 21 _ [some (.ref 56), some (.int (nI b)), some (.int (nI n)), some (.int (nI (64 * b + (q + 1))))] _ [.ref 56] rfl ?_
      refine ar_get M_M_insert rfl rfl h56 rfl ?_
      refine ar_go M_M_insert 3 _ 27 _ [some (.ref 56), some (.int (nI b)), some (.int (nI n)), some (.int (nI (64 * b + (q + 1))))] _ [.int (nI (64 * b + (q + 1)) - nI 1), .ref 58] rfl ?_
      refine ar_top (w := .int (nI (64 * b + q))) (congrArg Value.int (nI_pr1 b q)) ?_
      have hwq := (hc0 b hb).2.1.2.2.W q (by omega)
      refine ar_iald M_M_insert rfl (by unfold am_x0; omega) h58 (vp_in_nI (by omega) (by decide)) ?_
      rw [nI_clamp (n := (64 * b + q)) (by omega)]
      refine ar_top (w := .int (nI (wd (B b) q / 1024))) (congrArg Value.int ((s1.1.1 (64 * b + q) (by omega)).trans ((hc0 b hb).2.2 q (by omega)).1)) ?_
      refine ar_go M_M_insert 1 _ 29 _ [some (.ref 56), some (.int (nI b)), some (.int (nI n)), some (.int (nI (64 * b + (q + 1))))] _ [.int (nI n), .int (nI (wd (B b) q / 1024))] rfl ?_
      refine ar_icmp M_M_insert rfl rfl (fun hc2 => ?_) (fun hc2 => ?_)
      · have hc2 := c2_le_t (a := (wd (B b) q / 1024)) (b := n) (by omega) (by omega) hc2
        have hqp : pos (B b) n = q + 1 := hstop q hc2 (by omega) hpq
        rw [hqp] at K
        exact K h1 nu ve gr dr s1 s2 s3 s4 trivial ⟨h57, h58, h59, h60, h61⟩ h56 hF
      · have hc2 := c2_le_f (a := (wd (B b) q / 1024)) (b := n) (by omega) (by omega) hc2
        refine ar_go M_M_insert 1 _ 33 _ [some (.ref 56), some (.int (nI b)), some (.int (nI n)), some (.int (nI (64 * b + (q + 1))))] _ [.ref 56] rfl ?_
        refine ar_get M_M_insert rfl rfl h56 rfl ?_
        refine ar_go M_M_insert 2 _ 38 _ [some (.ref 56), some (.int (nI b)), some (.int (nI n)), some (.int (nI (64 * b + (q + 1))))] _ [.ref 56, .int (nI (64 * b + (q + 1))), .ref 58] rfl ?_
        refine ar_get M_M_insert rfl rfl h56 rfl ?_
        refine ar_go M_M_insert 3 _ 44 _ [some (.ref 56), some (.int (nI b)), some (.int (nI n)), some (.int (nI (64 * b + (q + 1))))] _ [.int (nI (64 * b + (q + 1)) - nI 1), .ref 58, .int (nI (64 * b + (q + 1))), .ref 58] rfl ?_
        refine ar_top (w := .int (nI (64 * b + q))) (congrArg Value.int (nI_pr1 b q)) ?_
        refine ar_iald M_M_insert rfl (by unfold am_x0; omega) h58 (vp_in_nI (by omega) (by decide)) ?_
        rw [nI_clamp (n := (64 * b + q)) (by omega)]
        refine ar_iast M_M_insert rfl h58 (vp_in_nI (by omega) (by decide)) (fun h2 hf he => ?_)
        rw [nI_clamp (n := (64 * b + (q + 1))) (by omega)] at he
        have h56 := hf.at h56 (by simp only [List.mem_cons, List.not_mem_nil, or_false]; omega)
        have h57 := hf.at h57 (by simp only [List.mem_cons, List.not_mem_nil, or_false]; omega)
        have h59 := hf.at h59 (by simp only [List.mem_cons, List.not_mem_nil, or_false]; omega)
        have h60 := hf.at h60 (by simp only [List.mem_cons, List.not_mem_nil, or_false]; omega)
        have h61 := hf.at h61 (by simp only [List.mem_cons, List.not_mem_nil, or_false]; omega)
        have h58 : h2[58]? = some (.inl (0, 256, .inl (upd nu (64 * b + (q + 1)) (nu (64 * b + q))))) := he
        have k1 := hf
        refine ar_go M_M_insert 1 _ 47 _ [some (.ref 56), some (.int (nI b)), some (.int (nI n)), some (.int (nI (64 * b + (q + 1))))] _ [.ref 56] rfl ?_
        refine ar_get M_M_insert rfl rfl h56 rfl ?_
        refine ar_go M_M_insert 2 _ 52 _ [some (.ref 56), some (.int (nI b)), some (.int (nI n)), some (.int (nI (64 * b + (q + 1))))] _ [.ref 56, .int (nI (64 * b + (q + 1))), .ref 59] rfl ?_
        refine ar_get M_M_insert rfl rfl h56 rfl ?_
        refine ar_go M_M_insert 3 _ 58 _ [some (.ref 56), some (.int (nI b)), some (.int (nI n)), some (.int (nI (64 * b + (q + 1))))] _ [.int (nI (64 * b + (q + 1)) - nI 1), .ref 59, .int (nI (64 * b + (q + 1))), .ref 59] rfl ?_
        refine ar_top (w := .int (nI (64 * b + q))) (congrArg Value.int (nI_pr1 b q)) ?_
        refine ar_iald M_M_insert rfl (by unfold am_x0; omega) h59 (vp_in_nI (by omega) (by decide)) ?_
        rw [nI_clamp (n := (64 * b + q)) (by omega)]
        refine ar_iast M_M_insert rfl h59 (vp_in_nI (by omega) (by decide)) (fun h3 hf he => ?_)
        rw [nI_clamp (n := (64 * b + (q + 1))) (by omega)] at he
        have h56 := hf.at h56 (by simp only [List.mem_cons, List.not_mem_nil, or_false]; omega)
        have h57 := hf.at h57 (by simp only [List.mem_cons, List.not_mem_nil, or_false]; omega)
        have h58 := hf.at h58 (by simp only [List.mem_cons, List.not_mem_nil, or_false]; omega)
        have h60 := hf.at h60 (by simp only [List.mem_cons, List.not_mem_nil, or_false]; omega)
        have h61 := hf.at h61 (by simp only [List.mem_cons, List.not_mem_nil, or_false]; omega)
        have h59 : h3[59]? = some (.inl (0, 256, .inl (upd ve (64 * b + (q + 1)) (ve (64 * b + q))))) := he
        have k2 := hf
        refine ar_go M_M_insert 1 _ 61 _ [some (.ref 56), some (.int (nI b)), some (.int (nI n)), some (.int (nI (64 * b + (q + 1))))] _ [.ref 56] rfl ?_
        refine ar_get M_M_insert rfl rfl h56 rfl ?_
        refine ar_go M_M_insert 2 _ 66 _ [some (.ref 56), some (.int (nI b)), some (.int (nI n)), some (.int (nI (64 * b + (q + 1))))] _ [.ref 56, .int (nI (64 * b + (q + 1))), .ref 60] rfl ?_
        refine ar_get M_M_insert rfl rfl h56 rfl ?_
        refine ar_go M_M_insert 3 _ 72 _ [some (.ref 56), some (.int (nI b)), some (.int (nI n)), some (.int (nI (64 * b + (q + 1))))] _ [.int (nI (64 * b + (q + 1)) - nI 1), .ref 60, .int (nI (64 * b + (q + 1))), .ref 60] rfl ?_
        refine ar_top (w := .int (nI (64 * b + q))) (congrArg Value.int (nI_pr1 b q)) ?_
        refine ar_iald M_M_insert rfl (by unfold am_x0; omega) h60 (vp_in_nI (by omega) (by decide)) ?_
        rw [nI_clamp (n := (64 * b + q)) (by omega)]
        refine ar_iast M_M_insert rfl h60 (vp_in_nI (by omega) (by decide)) (fun h4 hf he => ?_)
        rw [nI_clamp (n := (64 * b + (q + 1))) (by omega)] at he
        have h56 := hf.at h56 (by simp only [List.mem_cons, List.not_mem_nil, or_false]; omega)
        have h57 := hf.at h57 (by simp only [List.mem_cons, List.not_mem_nil, or_false]; omega)
        have h58 := hf.at h58 (by simp only [List.mem_cons, List.not_mem_nil, or_false]; omega)
        have h59 := hf.at h59 (by simp only [List.mem_cons, List.not_mem_nil, or_false]; omega)
        have h61 := hf.at h61 (by simp only [List.mem_cons, List.not_mem_nil, or_false]; omega)
        have h60 : h4[60]? = some (.inl (0, 256, .inl (upd gr (64 * b + (q + 1)) (gr (64 * b + q))))) := he
        have k3 := hf
        refine ar_go M_M_insert 1 _ 75 _ [some (.ref 56), some (.int (nI b)), some (.int (nI n)), some (.int (nI (64 * b + (q + 1))))] _ [.ref 56] rfl ?_
        refine ar_get M_M_insert rfl rfl h56 rfl ?_
        refine ar_go M_M_insert 2 _ 80 _ [some (.ref 56), some (.int (nI b)), some (.int (nI n)), some (.int (nI (64 * b + (q + 1))))] _ [.ref 56, .int (nI (64 * b + (q + 1))), .ref 61] rfl ?_
        refine ar_get M_M_insert rfl rfl h56 rfl ?_
        refine ar_go M_M_insert 3 _ 86 _ [some (.ref 56), some (.int (nI b)), some (.int (nI n)), some (.int (nI (64 * b + (q + 1))))] _ [.int (nI (64 * b + (q + 1)) - nI 1), .ref 61, .int (nI (64 * b + (q + 1))), .ref 61] rfl ?_
        refine ar_top (w := .int (nI (64 * b + q))) (congrArg Value.int (nI_pr1 b q)) ?_
        refine ar_zald M_M_insert rfl h61 (vp_in_nI (by omega) (by decide)) ?_
        rw [nI_clamp (n := (64 * b + q)) (by omega)]
        refine ar_zast M_M_insert rfl h61 (vp_in_nI (by omega) (by decide)) (fun h5 hf he => ?_)
        rw [nI_clamp (n := (64 * b + (q + 1))) (by omega)] at he
        have h56 := hf.at h56 (by simp only [List.mem_cons, List.not_mem_nil, or_false]; omega)
        have h57 := hf.at h57 (by simp only [List.mem_cons, List.not_mem_nil, or_false]; omega)
        have h58 := hf.at h58 (by simp only [List.mem_cons, List.not_mem_nil, or_false]; omega)
        have h59 := hf.at h59 (by simp only [List.mem_cons, List.not_mem_nil, or_false]; omega)
        have h60 := hf.at h60 (by simp only [List.mem_cons, List.not_mem_nil, or_false]; omega)
        have h61 : h5[61]? = some (.inl (2, 256, .inl (upd dr (64 * b + (q + 1)) (vp_nar .boolean (dr (64 * b + q)))))) := he
        have k4 := hf
        rw [show vp_nar .boolean (dr (64 * b + q)) = dr (64 * b + q) by rw [s4.1.1 (64 * b + q) (by omega), ((hc0 b hb).2.2 q (by omega)).2.2.2]; exact nar_bi _] at h61
        refine ar_go M_M_insert 1 _ 91 _ [some (.ref 56), some (.int (nI b)), some (.int (nI n)), some (.int (nI (64 * b + (q + 1)) + Int32.ofInt (-1)))] _ [] rfl ?_
        rw [show nI (64 * b + (q + 1)) + Int32.ofInt (-1) = nI (64 * b + q) from pk_m1 (64 * b + q)]
        refine ar_go M_M_insert 1 _ 12 _ [some (.ref 56), some (.int (nI b)), some (.int (nI n)), some (.int (nI (64 * b + q)))] _ [] rfl ?_
        exact ih q h5 _ _ _ _ (by omega) (by omega) (hlow q hc2 (by omega)) (s1.step (i := 64 * b + q) (by omega)) (s2.step (i := 64 * b + q) (by omega)) (s3.step (i := 64 * b + q) (by omega)) (s4.step (i := 64 * b + q) (by omega)) ⟨h57, h58, h59, h60, h61⟩ h56 (hF.tr (k1.tr (k2.tr (k3.tr k4 (l := [58, 59, 60, 61]) (by simp) (by simp)) (l := [58, 59, 60, 61]) (by simp) (by simp)) (l := [58, 59, 60, 61]) (by simp) (by simp)) (fun _ z => z) (fun _ z => z))
end
