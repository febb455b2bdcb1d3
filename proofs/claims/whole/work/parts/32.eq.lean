/-! Equations in their cells: object 19, the array of rows 20, the rows 21 .. 36 in some order, rowOfUnknown 37 -/
def eqL : List Nat := List.range' 19 19
theorem mem_eqL {k : Nat} : k ∈ eqL ↔ 19 ≤ k ∧ k < 38 := by
  unfold eqL
  rw [List.mem_range'_1]
def ruI (o : Option Nat) : Int32 := match o with
  | none => -1
  | some r => nI r
def updM (M : Nat → Nat → Nat) (i : Nat) (A : Nat → Nat) : Nat → Nat → Nat := fun a => if a = i then A else M a
theorem updM_s (M : Nat → Nat → Nat) (i : Nat) (A : Nat → Nat) : updM M i A i = A := by simp [updM]
theorem updM_n (M : Nat → Nat → Nat) {i a : Nat} (A : Nat → Nat) (h : a ≠ i) : updM M i A a = M a := by simp [updM, h]
def rwOk (ro : Nat → Nat) : Prop := (∀ i, i < 16 → 21 ≤ ro i ∧ ro i < 37) ∧ ∀ i j, i < 16 → j < 16 → ro i = ro j → i = j
/-- the matrix M, c equations, uk the row of each unknown; ro: which cell is which row -/
def isQ (h : am_H) (ro : Nat → Nat) (c : Nat) (M : Nat → Nat → Nat) (uk : Nat → Option Nat) : Prop :=
  h[19]? = some (.inr (3, [.ref 20, .ref 37, .int (nI c)])) ∧ (∃ g : Nat → Option Nat, h[20]? = some (.inl (3, 16, .inr (.inr (.inr (.inr g))))) ∧ ∀ i, i < 16 → g i = some (ro i)) ∧ rwOk ro ∧ (∀ i, i < 16 → h[ro i]? = some (.inl (1, 17, .inr (.inl (fun z9 => lN (M i z9)))))) ∧ (∀ i, i < 16 → lt17 (M i)) ∧ h[37]? = some (.inl (0, 16, .inl (fun i => ruI (uk i))))
theorem isQ.mv {h h1 : am_H} {ro : Nat → Nat} {c : Nat} {M : Nat → Nat → Nat} {uk : Nat → Option Nat} {s : List Nat} (hQ : isQ h ro c M uk) (hf : fr s h h1) (hs : ∀ k, 19 ≤ k → k < 38 → k ∉ s) : isQ h1 ro c M uk := by
  obtain ⟨q1, ⟨g, q2, q3⟩, q4, q5, q6, q7⟩ := hQ
  exact ⟨hf.at q1 (hs _ (by decide) (by decide)), ⟨g, hf.at q2 (hs _ (by decide) (by decide)), q3⟩, q4, fun i hi => hf.at (q5 i hi) (hs _ (by have := q4.1 i hi; omega) (by have := q4.1 i hi; omega)), q6, hf.at q7 (hs _ (by decide) (by decide))⟩
/-- a row gets new contents -/
theorem isQ.set {h h1 : am_H} {ro : Nat → Nat} {c i : Nat} {M : Nat → Nat → Nat} {uk : Nat → Option Nat} {A : Nat → Nat} (hQ : isQ h ro c M uk) (hi : i < 16) (hf : fr [ro i] h h1) (he : h1[ro i]? = some (.inl (1, 17, .inr (.inl (fun z9 => lN (A z9)))))) (hA : lt17 A) : isQ h1 ro c (updM M i A) uk := by
  obtain ⟨q1, ⟨g, q2, q3⟩, q4, q5, q6, q7⟩ := hQ
  have hb := q4.1 i hi
  refine ⟨hf.at q1 (by simp; omega), ⟨g, hf.at q2 (by simp; omega), q3⟩, q4, fun j hj => ?_, fun j hj => ?_, hf.at q7 (by simp; omega)⟩
  · by_cases e : j = i
    · subst e
      rw [updM_s]
      exact he
    · rw [updM_n _ _ e]
      exact hf.at (q5 j hj) (by simp; exact fun z => e (q4.2 j i hj hi z))
  · by_cases e : j = i
    · subst e
      rw [updM_s]
      exact hA
    · rw [updM_n _ _ e]
      exact q6 j hj
theorem eq_sub {ro : Nat → Nat} (h : rwOk ro) {i : Nat} (hi : i < 16) : ∀ k ∈ [ro i], k ∈ eqL := by
  intro k hk
  rw [List.mem_singleton] at hk
  rw [mem_eqL, hk]
  have := h.1 i hi
  omega
/-- two rows change places -/
def swN (f : Nat → Nat) (a b : Nat) : Nat → Nat := fun i => if i = b then f a else if i = a then f b else f i
def swM (M : Nat → Nat → Nat) (a b : Nat) : Nat → Nat → Nat := fun i => if i = b then M a else if i = a then M b else M i
theorem swN_ok {ro : Nat → Nat} (h : rwOk ro) {a b : Nat} (ha : a < 16) (hb : b < 16) : rwOk (swN ro a b) := by
  refine ⟨fun i hi => ?_, fun i j hi hj e => ?_⟩
  · unfold swN
    split
    · exact h.1 a ha
    · split
      · exact h.1 b hb
      · exact h.1 i hi
  · have key : ∀ i, i < 16 → ∃ k, k < 16 ∧ swN ro a b i = ro k ∧ k = if i = b then a else if i = a then b else i := by
      intro i hi
      unfold swN
      split
      · exact ⟨a, ha, rfl, rfl⟩
      · split
        · exact ⟨b, hb, rfl, rfl⟩
        · exact ⟨i, hi, rfl, rfl⟩
    obtain ⟨k1, l1, e1, d1⟩ := key i hi
    obtain ⟨k2, l2, e2, d2⟩ := key j hj
    rw [e1, e2] at e
    have := h.2 k1 k2 l1 l2 e
    subst this
    rw [d1] at d2
    split at d2 <;> split at d2 <;> (try split at d2) <;> (try split at d2) <;> omega
-- what the methods reckon
def sc1 (A : Nat → Nat) (s fm : Nat) : Nat → Nat → Nat
  | 0 => A
  | i + 1 => updN (sc1 A s fm i) (fm + i) (sc1 A s fm i (fm + i) * s % 2147483647)
theorem sc1_17 {A : Nat → Nat} (h : lt17 A) (s fm : Nat) : ∀ i, lt17 (sc1 A s fm i)
  | 0 => h
  | i + 1 => (sc1_17 h s fm i).up _ (Nat.mod_lt _ (by decide))
def cl1 (A U : Nat → Nat) (mu col : Nat) : Nat → Nat → Nat
  | 0 => A
  | i + 1 => updN (cl1 A U mu col i) (col + i) ((cl1 A U mu col i (col + i) + 2147483647 - mu * U (col + i) % 2147483647) % 2147483647)
theorem cl1_17 {A : Nat → Nat} (h : lt17 A) (U : Nat → Nat) (mu col : Nat) : ∀ i, lt17 (cl1 A U mu col i)
  | 0 => h
  | i + 1 => (cl1_17 h U mu col i).up _ (Nat.mod_lt _ (by decide))
def clr (M : Nat → Nat → Nat) (used col c : Nat) : Nat → Nat → Nat → Nat
  | 0 => M
  | r + 1 => if r = used then clr M used col c r else if clr M used col c r r col = 0 then clr M used col c r else updM (clr M used col c r) r (cl1 (clr M used col c r r) (clr M used col c r used) (clr M used col c r r col) col (c + 1 - col))
def fz (M : Nat → Nat → Nat) (col : Nat) : Nat → Nat → Nat
  | 0, row => row
  | n + 1, row => if M row col = 0 then fz M col n (row + 1) else row
def rs0 (M : Nat → Nat → Nat) (c : Nat) : Nat → Nat → Bool
  | 0, _ => true
  | n + 1, row => if M row c = 0 then rs0 M c n (row + 1) else false
def unk (M : Nat → Nat → Nat) (uk : Nat → Option Nat) (c col : Nat) : Nat := match uk col with
  | none => 0
  | some r => M r c
