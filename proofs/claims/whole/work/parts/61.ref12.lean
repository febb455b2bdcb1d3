/-! The reference: sift -/
def siV (A : Nat → Nat) (u l x a b r : Nat) : Nat := (hvS (fun i => A (34 * r + i)) x (u + 1) 0 * b % 2147483647 + 2147483647 - hvS (fun i => A (34 * r + 17 + i)) x (l + 1) 0 * a % 2147483647) % 2147483647
def sVA (V A : Nat → Nat) (u l x a b : Nat) : Nat → Nat → Nat
  | 0 => V
  | r + 1 => updN (sVA V A u l x a b r) r (siV A u l x a b r)
def pvO (A : Nat → Nat) (u l x a b : Nat) : Nat → Option Nat
  | 0 => none
  | r + 1 => if siV A u l x a b r = 0 then pvO A u l x a b r else some r
theorem siV_lt (A : Nat → Nat) (u l x a b r : Nat) : siV A u l x a b r < 2147483647 := Nat.mod_lt _ (by decide)
theorem sVA_at (V A : Nat → Nat) (u l x a b : Nat) : ∀ n r, r < n → sVA V A u l x a b n r = siV A u l x a b r
  | 0, r, h => absurd h (Nat.not_lt_zero _)
  | n + 1, r, h => by
    rw [sVA]
    unfold updN
    split
    · subst_vars; rfl
    · exact sVA_at V A u l x a b n r (by omega)
theorem pvO_lt (A : Nat → Nat) (u l x a b : Nat) : ∀ n r, pvO A u l x a b n = some r → r < n ∧ siV A u l x a b r ≠ 0
  | 0, r, h => by cases h
  | n + 1, r, h => by
    rw [pvO] at h
    split at h
    next => have := pvO_lt A u l x a b n r h; exact ⟨by omega, this.2⟩
    next z => cases h; exact ⟨by omega, z⟩
theorem c_M_si_1 (X : am_X) (d : Nat) (h : am_H) {s : Int64} {ud ld nd tn : Int32} {V A : Nat → Nat} {u l k x a b : Nat} (hl : ltS A) (hul : u ≤ 16 ∧ l ≤ 16) (hk : k ≤ 18) (hx : x < 2147483648) (ha : a < 2147483648) (hb : b < 2147483648) {Q : Option Value → am_H → Prop} (K : ∀ h1 : am_H, isM0 h1 s ud ld (nI k) (nI u) (nI l) nd tn → isLA h1 64 612 A → isLA h1 65 18 (sVA V A u l x a b k) → fr [65] h h1 → ar Pg X (d + 1 + 1) n_M_sift 94 [some (.ref 56), some (.long (lN x)), none, some (.long (lN a)), none, some (.long (lN b)), none, some (.int (ruI (pvO A u l x a b k))), some (.int (nI k)), none, none] [] h1 Q) : ∀ (n r : Nat) (h1 : am_H), k - r < n → r ≤ k → isM0 h1 s ud ld (nI k) (nI u) (nI l) nd tn → isLA h1 64 612 A → isLA h1 65 18 (sVA V A u l x a b r) → fr [65] h h1 → ar Pg X (d + 1 + 1) n_M_sift 6 [some (.ref 56), some (.long (lN x)), none, some (.long (lN a)), none, some (.long (lN b)), none, some (.int (ruI (pvO A u l x a b r))), some (.int (nI r)), none, none] [] h1 Q := by
  intro n
  induction n with
  | zero => intro r h1 hr; omega
  | succ n ih =>
    intro r h1 hr hrk h56 h64 h65 hF
    have h560 := h56
    have h640 := h64
    unfold isM0 at h56
    unfold isLA at h64 h65
    refine ar_go M_M_sift 2 _ 9 _ [some (.ref 56), some (.long (lN x)), none, some (.long (lN a)), none, some (.long (lN b)), none, some (.int (ruI (pvO A u l x a b r))), some (.int (nI r)), none, none] _ [.ref 56, .int (nI r)] rfl ?_
    refine ar_get M_M_sift rfl rfl h56 rfl ?_
    refine ar_icmp M_M_sift rfl rfl (fun hc => ?_) (fun hc => ?_)
    · have hc := c2_ge_t (a := r) (b := k) (by omega) (by omega) hc
      have hr2 : r = k := by omega
      rw [hr2] at h65 ⊢
      exact K h1 h560 h640 h65 hF
    · have hc := c2_ge_f (a := r) (b := k) (by omega) (by omega) hc
      refine ar_go M_M_sift 1 _ 16 _ [some (.ref 56), some (.long (lN x)), none, some (.long (lN a)), none, some (.long (lN b)), none, some (.int (ruI (pvO A u l x a b r))), some (.int (nI r)), none, none] _ [.ref 56] rfl ?_
      refine ar_get M_M_sift rfl rfl h56 rfl ?_
      refine ar_go M_M_sift 5 _ 27 _ [some (.ref 56), some (.long (lN x)), none, some (.long (lN a)), none, some (.long (lN b)), none, some (.int (ruI (pvO A u l x a b r))), some (.int (nI r)), none, none] _ [.int (nI 34 * nI r), .ref 56, .int (nI r), .ref 65] rfl ?_
      refine ar_top (w := .int (nI (34 * r))) (congrArg Value.int (pk_mul 34 r)) ?_
      refine ar_go M_M_sift 2 _ 29 _ [some (.ref 56), some (.long (lN x)), none, some (.long (lN a)), none, some (.long (lN b)), none, some (.int (ruI (pvO A u l x a b r))), some (.int (nI r)), none, none] _ [.int (nI (34 * r) + nI 0), .ref 56, .int (nI r), .ref 65] rfl ?_
      refine ar_top (w := .int (nI (34 * r))) (congrArg Value.int (nI_add (34 * r) 0)) ?_
      refine ar_go M_M_sift 1 _ 30 _ [some (.ref 56), some (.long (lN x)), none, some (.long (lN a)), none, some (.long (lN b)), none, some (.int (ruI (pvO A u l x a b r))), some (.int (nI r)), none, none] _ [.ref 56, .int (nI (34 * r)), .ref 56, .int (nI r), .ref 65] rfl ?_
      refine ar_get M_M_sift rfl rfl h56 rfl ?_
      refine ar_go M_M_sift 1 _ 34 _ [some (.ref 56), some (.long (lN x)), none, some (.long (lN a)), none, some (.long (lN b)), none, some (.int (ruI (pvO A u l x a b r))), some (.int (nI r)), none, none] _ [.long (lN x), .int (nI u), .int (nI (34 * r)), .ref 56, .int (nI r), .ref 65] rfl ?_
      refine ar_CV M_M_sift rfl rfl (Or.inl rfl) rfl rfl (Nat.le_of_ble_eq_true rfl) h56 M_M_valueOf (Nat.le_of_ble_eq_true rfl) (c_M_valueOf X d _ (k := u + 1) (fm := 34 * r) h560 h640 (fun j hj => hl _ (by omega)) (by omega) (by omega) hx) (fun r1 h1 hq => ?_)
      obtain ⟨rfl, rfl⟩ := hq
      refine ⟨rfl, ?_⟩
      have hv1 := hvS_lt (fun i => A (34 * r + i)) x (u + 1) 0
      show ar Pg _ _ _ 37 [some (.ref 56), some (.long (lN x)), none, some (.long (lN a)), none, some (.long (lN b)), none, some (.int (ruI (pvO A u l x a b r))), some (.int (nI r)), none, none] [.long (lN (hvS (fun i => A (34 * r + i)) x (u + 1) 0)), .int (nI r), .ref 65] _ _
      refine ar_go M_M_sift 1 _ 39 _ [some (.ref 56), some (.long (lN x)), none, some (.long (lN a)), none, some (.long (lN b)), none, some (.int (ruI (pvO A u l x a b r))), some (.int (nI r)), none, none] _ [.long (lN b), .long (lN (hvS (fun i => A (34 * r + i)) x (u + 1) 0)), .int (nI r), .ref 65] rfl ?_
      refine ar_CS M_M_sift rfl rfl (Nat.le_of_ble_eq_true rfl) rfl rfl (Nat.le_of_ble_eq_true rfl) M_M_mul (Nat.le_of_ble_eq_true rfl) (c_M_mul X (d + 1) _ (by omega) hb) (fun r1 h1 hq => ?_)
      obtain ⟨rfl, rfl⟩ := hq
      refine ⟨rfl, ?_⟩
      have hm1 : hvS (fun i => A (34 * r + i)) x (u + 1) 0 * b % 2147483647 < 2147483647 := Nat.mod_lt _ (by decide)
      show ar Pg _ _ _ 42 [some (.ref 56), some (.long (lN x)), none, some (.long (lN a)), none, some (.long (lN b)), none, some (.int (ruI (pvO A u l x a b r))), some (.int (nI r)), none, none] [.long (lN (hvS (fun i => A (34 * r + i)) x (u + 1) 0 * b % 2147483647)), .int (nI r), .ref 65] _ _
      refine ar_go M_M_sift 4 _ 48 _ [some (.ref 56), some (.long (lN x)), none, some (.long (lN a)), none, some (.long (lN b)), none, some (.int (ruI (pvO A u l x a b r))), some (.int (nI r)), none, none] _ [.int (nI 34 * nI r), .ref 56, .long (lN (hvS (fun i => A (34 * r + i)) x (u + 1) 0 * b % 2147483647)), .int (nI r), .ref 65] rfl ?_
      refine ar_top (w := .int (nI (34 * r))) (congrArg Value.int (pk_mul 34 r)) ?_
      refine ar_go M_M_sift 2 _ 51 _ [some (.ref 56), some (.long (lN x)), none, some (.long (lN a)), none, some (.long (lN b)), none, some (.int (ruI (pvO A u l x a b r))), some (.int (nI r)), none, none] _ [.int (nI (34 * r) + nI 17), .ref 56, .long (lN (hvS (fun i => A (34 * r + i)) x (u + 1) 0 * b % 2147483647)), .int (nI r), .ref 65] rfl ?_
      refine ar_top (w := .int (nI ((34 * r) + 17))) (congrArg Value.int (nI_add (34 * r) 17)) ?_
      refine ar_go M_M_sift 1 _ 52 _ [some (.ref 56), some (.long (lN x)), none, some (.long (lN a)), none, some (.long (lN b)), none, some (.int (ruI (pvO A u l x a b r))), some (.int (nI r)), none, none] _ [.ref 56, .int (nI ((34 * r) + 17)), .ref 56, .long (lN (hvS (fun i => A (34 * r + i)) x (u + 1) 0 * b % 2147483647)), .int (nI r), .ref 65] rfl ?_
      refine ar_get M_M_sift rfl rfl h56 rfl ?_
      refine ar_go M_M_sift 1 _ 56 _ [some (.ref 56), some (.long (lN x)), none, some (.long (lN a)), none, some (.long (lN b)), none, some (.int (ruI (pvO A u l x a b r))), some (.int (nI r)), none, none] _ [.long (lN x), .int (nI l), .int (nI ((34 * r) + 17)), .ref 56, .long (lN (hvS (fun i => A (34 * r + i)) x (u + 1) 0 * b % 2147483647)), .int (nI r), .ref 65] rfl ?_
      refine ar_CV M_M_sift rfl rfl (Or.inl rfl) rfl rfl (Nat.le_of_ble_eq_true rfl) h56 M_M_valueOf (Nat.le_of_ble_eq_true rfl) (c_M_valueOf X d _ (k := l + 1) (fm := 34 * r + 17) h560 h640 (fun j hj => hl _ (by omega)) (by omega) (by omega) hx) (fun r1 h1 hq => ?_)
      obtain ⟨rfl, rfl⟩ := hq
      refine ⟨rfl, ?_⟩
      have hv2 := hvS_lt (fun i => A (34 * r + 17 + i)) x (l + 1) 0
      show ar Pg _ _ _ 59 [some (.ref 56), some (.long (lN x)), none, some (.long (lN a)), none, some (.long (lN b)), none, some (.int (ruI (pvO A u l x a b r))), some (.int (nI r)), none, none] [.long (lN (hvS (fun i => A (34 * r + 17 + i)) x (l + 1) 0)), .long (lN (hvS (fun i => A (34 * r + i)) x (u + 1) 0 * b % 2147483647)), .int (nI r), .ref 65] _ _
      refine ar_go M_M_sift 1 _ 60 _ [some (.ref 56), some (.long (lN x)), none, some (.long (lN a)), none, some (.long (lN b)), none, some (.int (ruI (pvO A u l x a b r))), some (.int (nI r)), none, none] _ [.long (lN a), .long (lN (hvS (fun i => A (34 * r + 17 + i)) x (l + 1) 0)), .long (lN (hvS (fun i => A (34 * r + i)) x (u + 1) 0 * b % 2147483647)), .int (nI r), .ref 65] rfl ?_
      refine ar_CS M_M_sift rfl rfl (Nat.le_of_ble_eq_true rfl) rfl rfl (Nat.le_of_ble_eq_true rfl) M_M_mul (Nat.le_of_ble_eq_true rfl) (c_M_mul X (d + 1) _ (by omega) ha) (fun r1 h1 hq => ?_)
      obtain ⟨rfl, rfl⟩ := hq
      refine ⟨rfl, ?_⟩
      have hm2 : hvS (fun i => A (34 * r + 17 + i)) x (l + 1) 0 * a % 2147483647 < 2147483647 := Nat.mod_lt _ (by decide)
      show ar Pg _ _ _ 63 [some (.ref 56), some (.long (lN x)), none, some (.long (lN a)), none, some (.long (lN b)), none, some (.int (ruI (pvO A u l x a b r))), some (.int (nI r)), none, none] [.long (lN (hvS (fun i => A (34 * r + 17 + i)) x (l + 1) 0 * a % 2147483647)), .long (lN (hvS (fun i => A (34 * r + i)) x (u + 1) 0 * b % 2147483647)), .int (nI r), .ref 65] _ _
      refine ar_CS M_M_sift rfl rfl (Nat.le_of_ble_eq_true rfl) rfl rfl (Nat.le_of_ble_eq_true rfl) M_M_minus (Nat.le_of_ble_eq_true rfl) (c_M_minus X (d + 1) _ (by omega) hm2) (fun r1 h1 hq => ?_)
      obtain ⟨rfl, rfl⟩ := hq
      refine ⟨rfl, ?_⟩
      show ar Pg _ _ _ 66 [some (.ref 56), some (.long (lN x)), none, some (.long (lN a)), none, some (.long (lN b)), none, some (.int (ruI (pvO A u l x a b r))), some (.int (nI r)), none, none] [.long (lN (siV A u l x a b r)), .int (nI r), .ref 65] _ _
      refine ar_last M_M_sift rfl h65 (vp_in_nI (by omega) (by decide)) (fun h2 hf he => ?_)
      rw [nI_clamp (n := r) (by omega)] at he
      rw [updL_lN] at he
      have h56 := hf.at h56 (by simp only [List.mem_cons, List.not_mem_nil, or_false]; omega)
      have h65 : h2[65]? = some (.inl (1, 18, .inr (.inl (fun z9 => lN ((updN (sVA V A u l x a b r) r (siV A u l x a b r)) z9))))) := he
      have k1 := hf
      refine ar_go M_M_sift 1 _ 68 _ [some (.ref 56), some (.long (lN x)), none, some (.long (lN a)), none, some (.long (lN b)), none, some (.int (ruI (pvO A u l x a b r))), some (.int (nI r)), none, none] _ [.ref 56] rfl ?_
      refine ar_get M_M_sift rfl rfl h56 rfl ?_
      refine ar_go M_M_sift 1 _ 73 _ [some (.ref 56), some (.long (lN x)), none, some (.long (lN a)), none, some (.long (lN b)), none, some (.int (ruI (pvO A u l x a b r))), some (.int (nI r)), none, none] _ [.int (nI r), .ref 65] rfl ?_
      refine ar_lald M_M_sift rfl h65 (vp_in_nI (by omega) (by decide)) ?_
      rw [nI_clamp (n := r) (by omega)]
      refine ar_top (w := .long (lN (siV A u l x a b r))) (congrArg Value.long (congrArg lN (sVA_at V A u l x a b (r + 1) r (by omega)))) ?_
      refine ar_go M_M_sift 2 _ 76 _ [some (.ref 56), some (.long (lN x)), none, some (.long (lN a)), none, some (.long (lN b)), none, some (.int (ruI (pvO A u l x a b r))), some (.int (nI r)), none, none] _ [.int (lg_cmp (lN (siV A u l x a b r)) (lN 0))] rfl ?_
      refine ar_top (w := .int (if siV A u l x a b r = 0 then 0 else 1)) (congrArg Value.int (lcmp0 (siV_lt _ _ _ _ _ _ _))) ?_
      by_cases h0 : siV A u l x a b r = 0
      · rw [if_pos h0]
        refine ar_if M_M_sift rfl rfl (fun _ => ?_) (fun z => absurd z (by decide))
        refine ar_go M_M_sift 2 _ 88 _ [some (.ref 56), some (.long (lN x)), none, some (.long (lN a)), none, some (.long (lN b)), none, some (.int (ruI (pvO A u l x a b r))), some (.int (nI r)), none, none] _ [] rfl ?_
        refine ar_go M_M_sift 1 _ 91 _ [some (.ref 56), some (.long (lN x)), none, some (.long (lN a)), none, some (.long (lN b)), none, some (.int (ruI (pvO A u l x a b r))), some (.int (nI r + Int32.ofInt 1)), none, none] _ [] rfl ?_
        rw [show nI r + Int32.ofInt 1 = nI (r + 1) from nI_add r 1]
        refine ar_go M_M_sift 1 _ 6 _ [some (.ref 56), some (.long (lN x)), none, some (.long (lN a)), none, some (.long (lN b)), none, some (.int (ruI (pvO A u l x a b r))), some (.int (nI (r + 1))), none, none] _ [] rfl ?_
        have hp : pvO A u l x a b (r + 1) = pvO A u l x a b r := by rw [pvO, if_pos h0]
        have := ih (r + 1) h2 (by omega) (by omega) h56 (k1.at h640 (by simp)) h65 (hF.tr k1 (fun _ z => z) (fun _ z => z))
        rw [hp] at this
        exact this
      · rw [if_neg h0]
        refine ar_if M_M_sift rfl rfl (fun z => absurd z (by decide)) (fun _ => ?_)
        refine ar_go M_M_sift 3 _ 88 _ [some (.ref 56), some (.long (lN x)), none, some (.long (lN a)), none, some (.long (lN b)), none, some (.int (nI r)), some (.int (nI r)), none, none] _ [] rfl ?_
        refine ar_go M_M_sift 1 _ 91 _ [some (.ref 56), some (.long (lN x)), none, some (.long (lN a)), none, some (.long (lN b)), none, some (.int (nI r)), some (.int (nI r + Int32.ofInt 1)), none, none] _ [] rfl ?_
        rw [show nI r + Int32.ofInt 1 = nI (r + 1) from nI_add r 1]
        refine ar_go M_M_sift 1 _ 6 _ [some (.ref 56), some (.long (lN x)), none, some (.long (lN a)), none, some (.long (lN b)), none, some (.int (nI r)), some (.int (nI (r + 1))), none, none] _ [] rfl ?_
        have hp : pvO A u l x a b (r + 1) = some r := by rw [pvO, if_neg h0]
        have := ih (r + 1) h2 (by omega) (by omega) h56 (k1.at h640 (by simp)) h65 (hF.tr k1 (fun _ z => z) (fun _ z => z))
        rw [hp] at this
        exact this
