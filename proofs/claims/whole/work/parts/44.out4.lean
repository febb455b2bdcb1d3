/-! The class: exchange, settle, spread; what its find and reduce answer is O -/
def gB (l : Bk) : Prop := l.length ≤ 64 ∧ bkS l ∧ bkV l
def fdY (m : Nat) (la lb : Bk) (U0 W0 : Nat → Nat) : Prop := la.length ≤ lb.length + m ∧ lb.length ≤ la.length + m ∧ ∃ (M : Nat → Nat → Nat) (uk : Nat → Option Nat) (SA SB A0 C0 : Nat → Nat), (∀ i, i < 16 → lt17 (M i)) ∧ lt18 SA ∧ lt18 SB ∧ lt17 A0 ∧ lt17 C0 ∧ fdOk (fdG M uk (tk SA la (m + 2)) (tk SB lb (m + 2)) m la.length lb.length) (nN m la.length lb.length) = true ∧ U0 = fdP A0 (fdG M uk (tk SA la (m + 2)) (tk SB lb (m + 2)) m la.length lb.length) (nN m la.length lb.length) 0 (uN m la.length lb.length) ∧ W0 = fdP C0 (fdG M uk (tk SA la (m + 2)) (tk SB lb (m + 2)) m la.length lb.length) (nN m la.length lb.length) (uN m la.length lb.length) (lN2 m la.length lb.length)
def exN (m : Nat) (la lb : Bk) : Prop := (lb.length + m < la.length ∨ la.length + m < lb.length) ∨ (la.length ≤ lb.length + m ∧ lb.length ≤ la.length + m ∧ ∃ (M : Nat → Nat → Nat) (uk : Nat → Option Nat) (SA SB : Nat → Nat), (∀ i, i < 16 → lt17 (M i)) ∧ lt18 SA ∧ lt18 SB ∧ fdOk (fdG M uk (tk SA la (m + 2)) (tk SB lb (m + 2)) m la.length lb.length) (nN m la.length lb.length) = false)
def rdY (u : Nat) (U : Nat → Nat) (l : Nat) (W : Nat → Nat) (u' : Nat) (U' : Nat → Nat) (l' : Nat) (W' : Nat → Nat) : Prop := ∃ (G0 S0 : Nat → Nat) (q : Nat) (G : Nat → Nat), (∀ i, i < 17 → G0 i = U i) ∧ (∀ i, i < 17 → S0 i = W i) ∧ eu 17 (u + 1) G0 (l + 1) S0 = (q + 1, G) ∧ q ≤ u ∧ q ≤ l ∧ u' = u - q ∧ l' = l - q ∧ U' = shd (dv G q (u + 1 - q) U) q (u - q + 1) ∧ W' = shd (dv G q (l + 1 - q) W) q (l - q + 1)
def exY (m : Nat) (la lb : Bk) (u : Nat) (U : Nat → Nat) (l : Nat) (W : Nat → Nat) : Prop := ∃ U0 W0, fdY m la lb U0 W0 ∧ rdY (uN m la.length lb.length) U0 (lN2 m la.length lb.length) W0 u U l W
def eu_law : Prop := ∀ (u l : Nat) (U W : Nat → Nat), u ≤ 16 → l ≤ 16 → lt17 U → lt17 W → U u = 1 → W l = 1 → ∃ q G, eu 17 (u + 1) U (l + 1) W = (q + 1, G) ∧ q ≤ u ∧ q ≤ l
abbrev exT : Type := Nat → Bk → Bk → Option (Nat × (Nat → Nat) × Nat × (Nat → Nat))
def clOk (O : exT) : Prop := ∀ (m : Nat) (la lb : Bk), 1 ≤ m → m ≤ 16 → gB la → gB lb → (exN m la lb → O m la lb = none) ∧ ∀ (u : Nat) (U : Nat → Nat) (l : Nat) (W : Nat → Nat), exY m la lb u U l W → ∃ U' W' : Nat → Nat, O m la lb = some (u, U', l, W') ∧ (∀ i, i ≤ u → U i = U' i) ∧ ∀ i, i ≤ l → W i = W' i
abbrev Sg : Type := (Nat → Bk) × Int64 × Nat × (Nat → Nat) × Nat × (Nat → Nat)
def isS (h : am_H) (S : Sg) : Prop := isCl h S.1 S.2.1 S.2.2.1 S.2.2.2.1 S.2.2.2.2.1 S.2.2.2.2.2
def zr (o : Bk) (d : Nat) (A : Nat → Nat) : Bk := fil (zrB (d + 1) A o) o o.length
def sq (o : Bk) (k : Nat) : Nat := smp o (1073741824 + k) o.length
def ckB (m : Nat) (la lb : Bk) (u : Nat) (U : Nat → Nat) (l : Nat) (W : Nat → Nat) : Bool := decide ((zr lb l W).length = l) && (decide ((zr la u U).length = u) && ftA U (u + 1) W (l + 1) (sq la) (sq lb) (m + 2) 0)
def dlS (la lb p1 p2 : Bk) : Int64 := if dlF la lb p1 p2 = true then 0 else lN (2 * ((kn p1 la).length + (kn p2 lb).length))
def exF (O : exT) (S : Sg) (a b m : Nat) : Int32 × Sg := match O m (S.1 a) (S.1 b) with
  | none => (-4, S.1, S.2.1 + lN (m + 3), S.2.2)
  | some (u, U, l, W) => if ckB m (S.1 a) (S.1 b) u U l W = true then (dlR (S.1 a) (S.1 b) (zr (S.1 b) l W) (zr (S.1 a) u U), dlB S.1 a b (zr (S.1 b) l W) (zr (S.1 a) u U), S.2.1 + lN (m + 3) + lN (u + l) + dlS (S.1 a) (S.1 b) (zr (S.1 b) l W) (zr (S.1 a) u U), u, U, l, W) else (-4, S.1, S.2.1 + lN (m + 3) + lN (u + l), u, U, l, W)
def lsF (S : Sg) (a b : Nat) : Int32 × Sg := (dlR (S.1 a) (S.1 b) (alB (S.1 b)) (alB (S.1 a)), dlB S.1 a b (alB (S.1 b)) (alB (S.1 a)), S.2.1 + lN (2 * ((S.1 a).length + (S.1 b).length)), S.2.2)
theorem hvS_congr {A A' : Nat → Nat} (x : Nat) : ∀ k j, (∀ i, i < j + k → A i = A' i) → hvS A x k j = hvS A' x k j
  | 0, _, _ => rfl
  | k + 1, j, h => by rw [hvS, hvS, hvS_congr x k (j + 1) (fun i hi => h i (by omega)), h j (by omega)]
theorem zr_congr {A A' : Nat → Nat} {o : Bk} {d : Nat} (h : ∀ i, i ≤ d → A i = A' i) : zr o d A = zr o d A' := by
  unfold zr
  have : zrB (d + 1) A o = zrB (d + 1) A' o := by
    funext i
    unfold zrB
    rw [hvS_congr (A := A) (A' := A') _ (d + 1) 0 (fun i hi => h i (by omega))]
  rw [this]
theorem ftA_congr {U U' W W' SA SA' SB SB' : Nat → Nat} {u l p : Nat} (hU : ∀ i, i ≤ u → U i = U' i) (hW : ∀ i, i ≤ l → W i = W' i) (hA : ∀ k, k < p → SA k = SA' k) (hB : ∀ k, k < p → SB k = SB' k) : ∀ n k, k + n = p → ftA U (u + 1) W (l + 1) SA SB n k = ftA U' (u + 1) W' (l + 1) SA' SB' n k
  | 0, _, _ => rfl
  | n + 1, k, hk => by
    rw [ftA, ftA, ftA_congr hU hW hA hB n (k + 1) (by omega)]
    have : fts U (u + 1) W (l + 1) SA SB k = fts U' (u + 1) W' (l + 1) SA' SB' k := by
      unfold fts
      rw [hvS_congr (A := U) (A' := U') _ (u + 1) 0 (fun i hi => hU i (by omega)), hvS_congr (A := W) (A' := W') _ (l + 1) 0 (fun i hi => hW i (by omega)), hA k (by omega), hB k (by omega)]
    rw [this]
theorem fdL_cl : ∀ k, k ∈ fdL → k ∈ clL := fun k hk => by
  rw [mem_fdL] at hk
  rw [clL_mem]
  omega
theorem isCl.fd {h h1 : am_H} {B : Nat → Bk} {s : Int64} {u : Nat} {U : Nat → Nat} {l : Nat} {W : Nat → Nat} {ro : Nat → Nat} {c : Nat} {M : Nat → Nat → Nat} {uk : Nat → Option Nat} {SA SB : Nat → Nat} {u2 : Nat} {U2 : Nat → Nat} {l2 : Nat} {W2 : Nat → Nat} (H : isCl h B s u U l W) (hf : fr fdL h h1) (hQ : isQ h1 ro c M uk) (h38 : isLA h1 38 18 SA) (h39 : isLA h1 39 18 SB) (hSA : lt18 SA) (hSB : lt18 SB) (hP : isPr h1 u2 U2 l2 W2) : isCl h1 B s u2 U2 l2 W2 := by
  obtain ⟨h0, h1', hK, hX, _⟩ := H
  refine ⟨hf.at h0 (by rw [mem_fdL]; omega), h1'.mv hf (by rw [mem_fdL]; omega), hK.mv hf (fun k _ _ => by rw [mem_fdL]; omega), ?_, hP⟩
  obtain ⟨a, ⟨l2, c⟩, ⟨l3, b⟩, ⟨k, A, d⟩, ⟨k2, A2, e⟩, _⟩ := hX
  refine ⟨hf.at a ?_, ⟨l2, c.fr hf ?_ ?_ ?_ ?_⟩, ⟨l3, b.fr hf ?_ ?_ ?_ ?_⟩, ⟨k, A, d.fr hf ?_ ?_⟩, ⟨k2, A2, e.fr hf ?_ ?_⟩, ⟨ro, _, M, uk, hQ⟩, ⟨SA, h38, hSA⟩, SB, h39, hSB⟩
  all_goals (rw [mem_fdL]; omega)
theorem isP.pr {h : am_H} {u l : Nat} {U W : Nat → Nat} (h1 : isP h 11 (u + 1) U) (h2 : isP h 13 (l + 1) W) : isPr h u U l W := ⟨U, W, h1, h2, fun _ _ => rfl, fun _ _ => rfl⟩
theorem isCl.rd {h h1 : am_H} {B : Nat → Bk} {s : Int64} {u : Nat} {U : Nat → Nat} {l : Nat} {W : Nat → Nat} {u2 : Nat} {U2 : Nat → Nat} {l2 : Nat} {W2 : Nat → Nat} (H : isCl h B s u U l W) (hf : fr [11, 12, 13, 14, 15, 16, 17, 18] h h1) (h15 : ∃ k A, isP h1 15 k A) (h17 : ∃ k A, isP h1 17 k A) (hP : isPr h1 u2 U2 l2 W2) : isCl h1 B s u2 U2 l2 W2 := by
  obtain ⟨h0, h1', hK, hX, _⟩ := H
  refine ⟨hf.at h0 (by simp), h1'.mv hf (by simp), hK.mv hf (fun k _ _ => by simp; omega), ?_, hP⟩
  obtain ⟨a, ⟨l2, c⟩, ⟨l3, b⟩, _, _, ⟨ro, c0, M, uk, g⟩, ⟨SA, i, i2⟩, SB, j, j2⟩ := hX
  exact ⟨hf.at a (by simp), ⟨l2, c.fr hf (by simp) (by simp) (by simp) (by simp)⟩, ⟨l3, b.fr hf (by simp) (by simp) (by simp) (by simp)⟩, h15, h17, ⟨ro, c0, M, uk, g.mv hf (fun k _ _ => by simp; omega)⟩, ⟨SA, hf.at i (by simp), i2⟩, SB, hf.at j (by simp), j2⟩
theorem c_A_find2 (X : am_X) (d : Nat) (h : am_H) {B : Nat → Bk} {s : Int64} {u : Nat} {U : Nat → Nat} {l : Nat} {W : Nat → Nat} (hC : isCl h B s u U l W) {a b m : Nat} (ha : a < 4) (hb : b < 4) (hm1 : 1 ≤ m) (hm : m ≤ 16) : ar Pg X (d + 1 + 1 + 1) n_A_find 0 [some (.ref 10), some (.ref (40 + 4 * a)), some (.ref (40 + 4 * b)), some (.int (nI m)), none, none, none, none, none] [] h (fun rr h' => ∃ ok : Bool, rr = some (.int (bi ok)) ∧ fr clL h h' ∧ (ok = false → exN m (B a) (B b) ∧ isCl h' B s u U l W) ∧ (ok = true → ∃ U0 W0 SA SB : Nat → Nat, fdY m (B a) (B b) U0 W0 ∧ isCl h' B s (uN m (B a).length (B b).length) U0 (lN2 m (B a).length (B b).length) W0 ∧ isP h' 11 (uN m (B a).length (B b).length + 1) U0 ∧ isP h' 13 (lN2 m (B a).length (B b).length + 1) W0 ∧ isLA h' 38 18 SA ∧ lt18 SA ∧ isLA h' 39 18 SB ∧ lt18 SB ∧ (∀ k, k < m + 2 → SA k = sq (B a) k) ∧ ∀ k, k < m + 2 → SB k = sq (B b) k)) := by
  have hC0 := hC
  obtain ⟨h0, h1, hK, ⟨hF, _, _, _, _, ⟨ro, c0, M, uk, hQ⟩, ⟨SA, h38, hSA⟩, SB, h39, hSB⟩, U1, W1, hU1, hW1, hUe, hWe⟩ := hC
  obtain ⟨hRa, hSa, hVa⟩ := hK a ha
  obtain ⟨hRb, hSb, hVb⟩ := hK b hb
  have hM17 : ∀ i, i < 16 → lt17 (M i) := hQ.2.2.2.2.1
  refine ar_mono (c_A_find X d h ⟨by omega, by omega⟩ ⟨by omega, by omega⟩ hVa.W hVb.W hm1 hm hF hRa hRb hQ hU1 hW1 h38 h39 hSA hSB) ?_
  rintro rr h' (⟨hr, rfl, rfl⟩ | ⟨hr1, hr2, ok, rfl, hf, hok, hA, hB, ⟨ro2, hQ2⟩, hy, hn⟩)
  · exact ⟨false, rfl, fr.rf _ _, fun _ => ⟨Or.inl hr, hC0⟩, fun z => absurd z (by decide)⟩
  · refine ⟨ok, rfl, hf.mono fdL_cl, fun z => ⟨Or.inr ⟨hr1, hr2, M, uk, SA, SB, hM17, hSA, hSB, by rw [← hok]; exact z⟩, ?_⟩, fun z => ?_⟩
    · obtain ⟨k1, k2⟩ := hn z
      exact hC0.fd hf hQ2 hA hB (tk_18 hSA _ _) (tk_18 hSB _ _) ⟨U1, W1, k1, k2, hUe, hWe⟩
    · obtain ⟨k1, k2⟩ := hy z
      exact ⟨_, _, _, _, ⟨hr1, hr2, M, uk, SA, SB, U1, W1, hM17, hSA, hSB, hU1.2.2.2, hW1.2.2.2, by rw [← hok]; exact z, rfl, rfl⟩, hC0.fd hf hQ2 hA hB (tk_18 hSA _ _) (tk_18 hSB _ _) (k1.pr k2), k1, k2, hA, tk_18 hSA _ _, hB, tk_18 hSB _ _, fun k hk => tk_at _ _ _ _ hk, fun k hk => tk_at _ _ _ _ hk⟩
theorem c_A_red2 (hE : eu_law) (X : am_X) (d : Nat) (h : am_H) {B : Nat → Bk} {s : Int64} {u : Nat} {U : Nat → Nat} {l : Nat} {W : Nat → Nat} (hC : isCl h B s u U l W) (hU : isP h 11 (u + 1) U) (hW : isP h 13 (l + 1) W) (hu1 : U u = 1) (hl1 : W l = 1) : ar Pg X (d + 1 + 1 + 1) n_A_reduce 0 [some (.ref 10), none, none, none, none] [] h (fun rr h' => rr = none ∧ fr [11, 12, 13, 14, 15, 16, 17, 18] h h' ∧ ∃ (u' : Nat) (U' : Nat → Nat) (l' : Nat) (W' : Nat → Nat), rdY u U l W u' U' l' W' ∧ isP h' 11 (u' + 1) U' ∧ isP h' 13 (l' + 1) W' ∧ isCl h' B s u' U' l' W') := by
  have hC0 := hC
  obtain ⟨h0, h1, hK, ⟨hF, _, _, ⟨k1, A1, h15⟩, ⟨k2, A2, h17⟩, _⟩, _⟩ := hC
  have hu := hU.1
  have hl := hW.1
  have hEE : ∀ G0 S0 : Nat → Nat, (∀ i, i < 17 → G0 i = U i) → (∀ i, i < 17 → S0 i = W i) → ∃ q G, eu 17 (u + 1) G0 (l + 1) S0 = (q + 1, G) ∧ q ≤ u ∧ q ≤ l := fun G0 S0 e1 e2 =>
    hE u l G0 S0 (by omega) (by omega) (fun i hi => by rw [e1 i hi]; exact hU.2.2.2 i hi) (fun i hi => by rw [e2 i hi]; exact hW.2.2.2 i hi) (by rw [e1 u (by omega)]; exact hu1) (by rw [e2 l (by omega)]; exact hl1)
  refine ar_mono (c_A_reduce X d h hF hU hW h15 h17 hEE) ?_
  rintro rr h' ⟨rfl, hf, G0, S0, q, G, e1, e2, he, hP1, hP2, h15', h17'⟩
  obtain ⟨q2, G2, he2, hq1, hq2⟩ := hEE G0 S0 e1 e2
  rw [he] at he2
  have hqq : q + 1 = q2 + 1 := (Prod.mk.inj he2).1
  exact ⟨rfl, hf, _, _, _, _, ⟨G0, S0, q, G, e1, e2, he, by omega, by omega, rfl, rfl, rfl, rfl⟩, hP1, hP2, hC0.rd hf h15' h17' (hP1.pr hP2)⟩
theorem fdP_top (A : Nat → Nat) (G : (Nat → Nat → Nat) × (Nat → Option Nat) × Nat) (n fst nd : Nat) : fdP A G n fst nd nd = 1 := by
  unfold fdP updN
  rw [if_pos rfl]
