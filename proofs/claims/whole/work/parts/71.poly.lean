/-! Polynomials over the field, as lists of factors from the lowest on; then as functions -/
def ev (l : List mF) (x : mF) : mF := match l with
  | [] => 0
  | a :: t => a + x * ev t x
def pl_add : List mF → List mF → List mF
  | [], l => l
  | a :: s, [] => a :: s
  | a :: s, b :: t => (a + b) :: pl_add s t
def pl_sc (c : mF) : List mF → List mF
  | [] => []
  | a :: s => (c * a) :: pl_sc c s
def pl_mul : List mF → List mF → List mF
  | [], _ => []
  | a :: s, l => pl_add (pl_sc a l) (0 :: pl_mul s l)
theorem ev_nil (x : mF) : ev [] x = 0 := rfl
theorem ev_cons (a : mF) (t : List mF) (x : mF) : ev (a :: t) x = a + x * ev t x := rfl
theorem ev_add (x : mF) : ∀ s t : List mF, ev (pl_add s t) x = ev s x + ev t x
  | [], t => by rw [pl_add, ev_nil]; grind
  | a :: s, [] => by rw [pl_add, ev_nil]; grind
  | a :: s, b :: t => by
    have ih := ev_add x s t
    rw [pl_add, ev_cons, ev_cons, ev_cons, ih]
    grind
theorem ev_sc (x c : mF) : ∀ s : List mF, ev (pl_sc c s) x = c * ev s x
  | [] => by rw [pl_sc, ev_nil]; grind
  | a :: s => by
    have ih := ev_sc x c s
    rw [pl_sc, ev_cons, ev_cons, ih]
    grind
theorem ev_mul (x : mF) : ∀ s t : List mF, ev (pl_mul s t) x = ev s x * ev t x
  | [], t => by rw [pl_mul, ev_nil]; grind
  | a :: s, t => by
    have ih := ev_mul x s t
    rw [pl_mul, ev_add, ev_sc, ev_cons, ev_cons, ih]
    grind
theorem pl_add_len : ∀ s t : List mF, (pl_add s t).length = max s.length t.length
  | [], t => by simp [pl_add]
  | a :: s, [] => by simp [pl_add]
  | a :: s, b :: t => by
    have ih := pl_add_len s t
    simp only [pl_add, List.length_cons, ih]
    omega
theorem pl_sc_len (c : mF) : ∀ s : List mF, (pl_sc c s).length = s.length
  | [] => rfl
  | a :: s => by rw [pl_sc, List.length_cons, List.length_cons, pl_sc_len c s]
theorem pl_mul_len : ∀ s t : List mF, (pl_mul s t).length ≤ s.length + t.length
  | [], t => by simp [pl_mul]
  | a :: s, t => by
    have ih := pl_mul_len s t
    rw [pl_mul, pl_add_len, pl_sc_len, List.length_cons, List.length_cons]
    omega
-- division by x - c
def pl_sd (c : mF) : List mF → List mF
  | [] => []
  | _ :: t => pl_add t (pl_sc c (pl_sd c t))
theorem pl_sd_len (c : mF) : ∀ l : List mF, (pl_sd c l).length = l.length - 1
  | [] => rfl
  | a :: t => by
    have ih := pl_sd_len c t
    rw [pl_sd, pl_add_len, pl_sc_len, ih, List.length_cons]
    omega
theorem pl_sd_ev (c x : mF) : ∀ l : List mF, ev l x = (x - c) * ev (pl_sd c l) x + ev l c
  | [] => by rw [pl_sd, ev_nil, ev_nil]; grind
  | a :: t => by
    have ih := pl_sd_ev c x t
    rw [pl_sd, ev_add, ev_sc, ev_cons, ev_cons, ih]
    grind
/-- no more zeros than factors behind the first -/
theorem pl_roots : ∀ (n : Nat) (l xs : List mF), l.length ≤ n → xs.length = n → xs.Nodup → (∀ c ∈ xs, ev l c = 0) → ∀ x, ev l x = 0
  | 0, l, xs, hl, _, _, _, x => by
    have : l = [] := List.length_eq_zero_iff.mp (by omega)
    subst this
    rfl
  | n + 1, l, [], hl, hx, _, _, _ => by simp at hx
  | n + 1, l, c :: xs, hl, hx, hn, hr, x => by
    have hc := hr c List.mem_cons_self
    have hn' := List.nodup_cons.mp hn
    have hq : ∀ y, ev (pl_sd c l) y = 0 := by
      apply pl_roots n (pl_sd c l) xs (by rw [pl_sd_len]; omega) (by simpa using hx) hn'.2
      intro y hy
      have h1 := hr y (List.mem_cons_of_mem _ hy)
      rw [pl_sd_ev c y l, hc] at h1
      have h2 : (y - c) * ev (pl_sd c l) y = 0 := by grind
      rcases mF_mul0 h2 with z | z
      · have : y = c := by grind
        subst this
        exact absurd hy hn'.1
      · exact z
    rw [pl_sd_ev c x l, hq x, hc]
    grind
-- points a, a + 1 ..
def ptl (a : Nat) : Nat → List mF
  | 0 => []
  | n + 1 => tf a :: ptl (a + 1) n
theorem ptl_len : ∀ (n a : Nat), (ptl a n).length = n
  | 0, _ => rfl
  | n + 1, a => by rw [ptl, List.length_cons, ptl_len n]
theorem ptl_mem : ∀ (n a : Nat) (c : mF), c ∈ ptl a n → ∃ k, a ≤ k ∧ k < a + n ∧ c = tf k
  | 0, _, _, h => by simp [ptl] at h
  | n + 1, a, c, h => by
    rw [ptl] at h
    rcases List.mem_cons.mp h with z | z
    · exact ⟨a, by omega, by omega, z⟩
    · obtain ⟨k, h1, h2, h3⟩ := ptl_mem n (a + 1) c z
      exact ⟨k, by omega, by omega, h3⟩
theorem ptl_nd : ∀ (n a : Nat), a + n ≤ 2147483647 → (ptl a n).Nodup
  | 0, _, _ => List.nodup_nil
  | n + 1, a, h => by
    rw [ptl]
    apply List.nodup_cons.mpr
    refine ⟨?_, ptl_nd n (a + 1) (by omega)⟩
    intro z
    obtain ⟨k, h1, h2, h3⟩ := ptl_mem n (a + 1) _ z
    have := tf_inj (by omega) (by omega) h3
    omega
/-- a polynomial that is 0 everywhere has no factor but 0 -/
theorem pl_zero : ∀ (l : List mF), l.length ≤ 2147483647 → (∀ x, ev l x = 0) → ∀ a ∈ l, a = 0
  | [], _, _, a, ha => by simp at ha
  | b :: t, hl, h, a, ha => by
    rw [List.length_cons] at hl
    have hb : b = 0 := by
      have := h 0
      rw [ev_cons] at this
      grind
    have ht : ∀ x, ev t x = 0 := by
      apply pl_roots t.length t (ptl 1 t.length) (Nat.le_refl _) (ptl_len _ _) (ptl_nd _ _ (by omega))
      intro c hc
      obtain ⟨k, h1, h2, h3⟩ := ptl_mem _ _ _ hc
      have h4 := h c
      rw [ev_cons, hb] at h4
      have h5 : c * ev t c = 0 := by grind
      rcases mF_mul0 h5 with z | z
      · exfalso
        rw [h3] at z
        have := (tf_eq0 (by omega)).mp z
        omega
      · exact z
    rcases List.mem_cons.mp ha with z | z
    · rw [z, hb]
    · exact pl_zero t (by omega) ht a z
theorem ev_app (x : mF) : ∀ (s t : List mF), ev (s ++ t) x = ev s x + x ^ s.length * ev t x
  | [], t => by
    rw [List.nil_append, ev_nil, List.length_nil]
    grind
  | a :: s, t => by
    have ih := ev_app x s t
    rw [List.cons_append, ev_cons, ih, ev_cons, List.length_cons]
    grind
theorem ev_rep (x c : mF) : ∀ n : Nat, ev (List.replicate n 0 ++ [c]) x = x ^ n * c
  | 0 => by
    rw [List.replicate_zero, List.nil_append, ev_cons, ev_nil]
    grind
  | n + 1 => by
    have ih := ev_rep x c n
    rw [List.replicate_succ, List.cons_append, ev_cons, ih]
    grind
/-! polynomial functions: d factors at most -/
def pf (d : Nat) (f : mF → mF) : Prop := ∃ l : List mF, l.length ≤ d ∧ ∀ x, ev l x = f x
theorem pf.mono {d e : Nat} {f : mF → mF} (h : pf d f) (he : d ≤ e) : pf e f := by
  obtain ⟨l, h1, h2⟩ := h
  exact ⟨l, by omega, h2⟩
theorem pf.congr {d : Nat} {f g : mF → mF} (h : pf d f) (he : ∀ x, f x = g x) : pf d g := by
  obtain ⟨l, h1, h2⟩ := h
  exact ⟨l, h1, fun x => by rw [h2, he]⟩
theorem pf_0 (d : Nat) : pf d (fun _ => 0) := ⟨[], by simp, fun _ => rfl⟩
theorem pf_c (c : mF) : pf 1 (fun _ => c) := ⟨[c], by simp, fun x => by rw [ev_cons, ev_nil]; grind⟩
theorem pf.add {d : Nat} {f g : mF → mF} (hf : pf d f) (hg : pf d g) : pf d (fun x => f x + g x) := by
  obtain ⟨l, h1, h2⟩ := hf
  obtain ⟨m, h3, h4⟩ := hg
  exact ⟨pl_add l m, by rw [pl_add_len]; omega, fun x => by rw [ev_add, h2, h4]⟩
theorem pf.sc {d : Nat} {f : mF → mF} (hf : pf d f) (c : mF) : pf d (fun x => c * f x) := by
  obtain ⟨l, h1, h2⟩ := hf
  exact ⟨pl_sc c l, by rw [pl_sc_len]; exact h1, fun x => by rw [ev_sc, h2]⟩
theorem pf.sub {d : Nat} {f g : mF → mF} (hf : pf d f) (hg : pf d g) : pf d (fun x => f x - g x) :=
  (hf.add (hg.sc (-1))).congr (fun x => by grind)
theorem pf.shift {d : Nat} {f : mF → mF} (hf : pf d f) : pf (d + 1) (fun x => x * f x) := by
  obtain ⟨l, h1, h2⟩ := hf
  exact ⟨0 :: l, by rw [List.length_cons]; omega, fun x => by rw [ev_cons, h2]; grind⟩
theorem pf.xp {d : Nat} {f : mF → mF} (hf : pf d f) : ∀ e : Nat, pf (e + d) (fun x => x ^ e * f x)
  | 0 => (hf.mono (by omega)).congr (fun x => by grind)
  | e + 1 => ((hf.xp e).shift.mono (by omega)).congr (fun x => by grind)
theorem pf.mul {d e : Nat} {f g : mF → mF} (hf : pf d f) (hg : pf e g) : pf (d + e) (fun x => f x * g x) := by
  obtain ⟨l, h1, h2⟩ := hf
  obtain ⟨m, h3, h4⟩ := hg
  exact ⟨pl_mul l m, by have := pl_mul_len l m; omega, fun x => by rw [ev_mul, h2, h4]⟩
theorem pf.zero {f : mF → mF} (hf : pf 0 f) (x : mF) : f x = 0 := by
  obtain ⟨l, h1, h2⟩ := hf
  have : l = [] := List.length_eq_zero_iff.mp (by omega)
  subst this
  rw [← h2]
  rfl
theorem pf.roots {d a n : Nat} {f : mF → mF} (hf : pf d f) (hn : d ≤ n) (ha : a + n ≤ 2147483647) (hz : ∀ k, k < n → f (tf (a + k)) = 0) (x : mF) : f x = 0 := by
  obtain ⟨l, h1, h2⟩ := hf
  rw [← h2]
  apply pl_roots n l (ptl a n) (by omega) (ptl_len _ _) (ptl_nd _ _ ha)
  intro c hc
  obtain ⟨k, h3, h4, h5⟩ := ptl_mem _ _ _ hc
  have h6 := hz (k - a) (by omega)
  rw [show a + (k - a) = k by omega] at h6
  rw [h5, h2]
  exact h6
/-- the factor at d is c, and there is none behind it -/
def lc (d : Nat) (c : mF) (f : mF → mF) : Prop := pf d (fun x => f x - c * x ^ d)
theorem lc.congr {d : Nat} {c : mF} {f g : mF → mF} (h : lc d c f) (he : ∀ x, f x = g x) : lc d c g := pf.congr h (fun x => by rw [he])
theorem pf_xd (d : Nat) (c : mF) : pf (d + 1) (fun x => c * x ^ d) := (((pf_c c).xp d)).congr (fun x => by grind)
theorem lc.pn {d : Nat} {c : mF} {f : mF → mF} (h : lc d c f) : pf (d + 1) f :=
  ((pf.mono h (by omega)).add (pf_xd d c)).congr (fun x => by grind)
theorem lc.mul {d e : Nat} {c b : mF} {f g : mF → mF} (hf : lc d c f) (hg : lc e b g) : lc (d + e) (c * b) (fun x => f x * g x) := by
  have h1 : pf (d + e) (fun x => (f x - c * x ^ d) * (g x - b * x ^ e)) := pf.mul hf hg
  have h2 : pf (d + e) (fun x => c * (x ^ d * (g x - b * x ^ e))) := (pf.xp hg d).sc c
  have h3 : pf (d + e) (fun x => b * (x ^ e * (f x - c * x ^ d))) := ((pf.xp hf e).sc b).mono (by omega)
  refine pf.congr ((h1.add h2).add h3) ?_
  intro x
  try dsimp only
  have : x ^ (d + e) = x ^ d * x ^ e := by grind
  rw [this]
  generalize x ^ d = u
  generalize x ^ e = w
  grind
theorem lc_z {d : Nat} {c : mF} (hd : d < 2147483647) (h : lc d c (fun _ => 0)) : c = 0 := by
  obtain ⟨l, h1, h2⟩ := h
  have hl : (l ++ (List.replicate (d - l.length) 0 ++ [c])).length = d + 1 := by
    rw [List.length_append, List.length_append, List.length_replicate, List.length_cons, List.length_nil]
    omega
  apply pl_zero (l ++ (List.replicate (d - l.length) 0 ++ [c])) (by omega)
  · intro x
    have e : x ^ d = x ^ l.length * x ^ (d - l.length) := by
      have : d = l.length + (d - l.length) := by omega
      generalize d - l.length = z at this
      rw [this]
      grind
    rw [ev_app, ev_rep, h2]
    dsimp only
    rw [e]
    generalize x ^ l.length = u
    generalize x ^ (d - l.length) = w
    grind
  · simp
theorem lc_hi {d : Nat} {c : mF} {f : mF → mF} (hd : d < 2147483647) (h : lc d c f) (hp : pf d f) : c = 0 := by
  apply lc_z hd
  exact pf.congr (pf.sub h hp) (fun x => by grind)
theorem lc_ne {d : Nat} {c : mF} {f : mF → mF} (hd : d < 2147483647) (h : lc d c f) (h0 : ¬ c = 0) : ¬ ∀ x, f x = 0 := by
  intro z
  exact h0 (lc_z hd (h.congr z))
theorem lc_eq {d : Nat} {c b : mF} {f : mF → mF} (hd : d < 2147483647) (h1 : lc d c f) (h2 : lc d b f) : c = b := by
  have h3 : lc d (c - b) (fun _ => 0) := pf.congr (pf.sub h1 h2) (fun x => by grind)
  have h4 := lc_z hd h3
  grind
theorem lc_uq {d e : Nat} {c b : mF} {f : mF → mF} (hd : d < 2147483647) (he : e < 2147483647) (h1 : lc d c f) (hc : ¬ c = 0) (h2 : lc e b f) (hb : ¬ b = 0) : d = e ∧ c = b := by
  rcases Nat.lt_trichotomy d e with z | z | z
  · exact absurd (lc_hi he h2 (h1.pn.mono (by omega))) hb
  · subst z
    exact ⟨rfl, lc_eq hd h1 h2⟩
  · exact absurd (lc_hi hd h1 (h2.pn.mono (by omega))) hc
theorem pf.top {d : Nat} {f : mF → mF} (h : pf (d + 1) f) : ∃ c, lc d c f := by
  obtain ⟨l, h1, h2⟩ := h
  by_cases hl : l.length ≤ d
  · exact ⟨0, pf.congr ⟨l, hl, h2⟩ (fun x => by grind)⟩
  · have ht : (l.take d).length = d := by
      rw [List.length_take]
      omega
    have hdr : (l.drop d).length = 1 := by
      rw [List.length_drop]
      omega
    obtain ⟨c, hc⟩ : ∃ c, l.drop d = [c] := List.length_eq_one_iff.mp hdr
    refine ⟨c, l.take d, by omega, ?_⟩
    intro x
    have h3 := ev_app x (l.take d) (l.drop d)
    rw [List.take_append_drop, ht, hc, ev_cons, ev_nil, h2] at h3
    grind
theorem pf.lead : ∀ {d : Nat} {f : mF → mF}, pf d f → (∀ x, f x = 0) ∨ ∃ e c, e < d ∧ (¬ c = 0) ∧ lc e c f
  | 0, f, h => Or.inl h.zero
  | d + 1, f, h => by
    obtain ⟨c, hc⟩ := h.top
    by_cases h0 : c = 0
    · have h1 : pf d f := pf.congr hc (fun x => by rw [h0]; grind)
      rcases h1.lead with z | ⟨e, b, h2, h3, h4⟩
      · exact Or.inl z
      · exact Or.inr ⟨e, b, by omega, h3, h4⟩
    · exact Or.inr ⟨d, c, by omega, h0, hc⟩
theorem mF_mne {a b : mF} (ha : ¬ a = 0) (hb : ¬ b = 0) : ¬ a * b = 0 := by
  intro z
  rcases mF_mul0 z with h | h
  · exact ha h
  · exact hb h
/-- a product that is 0 everywhere has a factor that is -/
theorem pf_dom {e k : Nat} {b : mF} {f g : mF → mF} (hf : lc k b f) (hb : ¬ b = 0) (hg : pf e g) (hd : k + e < 2147483647) (h : ∀ x, f x * g x = 0) : ∀ x, g x = 0 := by
  rcases hg.lead with z | ⟨j, c, h2, h3, h4⟩
  · exact z
  · exact absurd h (lc_ne (by omega) (hf.mul h4) (mF_mne hb h3))
