/-! The reference: lead, the rest -/
theorem c_M_ld_3 (X : am_X) (d : Nat) (h : am_H) {s : Int64} {ud ld uD lD nd tn : Int32} {A : Nat → Nat} {k c p q : Nat} (hp : p < 18) (hq : q < 18) {Q : Option Value → am_H → Prop} (K : ∀ (h1 : am_H) (x5 : Option Value), isM0 h1 s ud ld (nI k) uD lD nd tn → isLA h1 64 612 (swR A p q 34) → fr [64] h h1 → ar Pg X (d + 1 + 1) n_M_lead 179 [some (.ref 56), some (.int (nI c)), some (.int (nI p)), some (.int (nI q)), some (.int (nI 34)), x5, none] [] h1 Q) : ∀ (n i : Nat) (h1 : am_H) (x5 : Option Value), i + n = 34 → isM0 h1 s ud ld (nI k) uD lD nd tn → isLA h1 64 612 (swR A p q i) → fr [64] h h1 → ar Pg X (d + 1 + 1) n_M_lead 114 [some (.ref 56), some (.int (nI c)), some (.int (nI p)), some (.int (nI q)), some (.int (nI i)), x5, none] [] h1 Q := by
  intro n
  induction n with
  | zero =>
    intro i h1 x5 hi h56 h64 hF
    have hi34 : i = 34 := by omega
    subst hi34
    refine ar_go M_M_lead 2 _ 118 _ [some (.ref 56), some (.int (nI c)), some (.int (nI p)), some (.int (nI q)), some (.int (nI 34)), x5, none] _ [.int (nI 34), .int (nI 34)] rfl ?_
    exact ar_icmp M_M_lead rfl rfl (fun _ => K h1 x5 h56 h64 hF) (fun z => absurd z (by decide))
  | succ n ih =>
    intro i h1 x5 hi h56 h64 hF
    unfold isM0 at h56
    unfold isLA at h64
    refine ar_go M_M_lead 2 _ 118 _ [some (.ref 56), some (.int (nI c)), some (.int (nI p)), some (.int (nI q)), some (.int (nI i)), x5, none] _ [.int (nI 34), .int (nI i)] rfl ?_
    refine ar_icmp M_M_lead rfl rfl (fun hc1 => ?_) (fun hc1 => ?_)
    · have hc1 := c2_ge_t (a := i) (b := 34) (by omega) (by omega) hc1
      omega
    · have hc1 := c2_ge_f (a := i) (b := 34) (by omega) (by omega) hc1
      refine ar_go M_M_lead 1 _ 122 _ [some (.ref 56), some (.int (nI c)), some (.int (nI p)), some (.int (nI q)), some (.int (nI i)), x5, none] _ [.ref 56] rfl ?_
      refine ar_get M_M_lead rfl rfl h56 rfl ?_
      refine ar_go M_M_lead 3 _ 129 _ [some (.ref 56), some (.int (nI c)), some (.int (nI p)), some (.int (nI q)), some (.int (nI i)), x5, none] _ [.int (nI 34 * nI p), .ref 64] rfl ?_
      refine ar_top (w := .int (nI (34 * p))) (congrArg Value.int (pk_mul 34 p)) ?_
      refine ar_go M_M_lead 2 _ 132 _ [some (.ref 56), some (.int (nI c)), some (.int (nI p)), some (.int (nI q)), some (.int (nI i)), x5, none] _ [.int (nI (34 * p) + nI i), .ref 64] rfl ?_
      refine ar_top (w := .int (nI ((34 * p) + i))) (congrArg Value.int (nI_add (34 * p) i)) ?_
      refine ar_lald M_M_lead rfl h64 (vp_in_nI (by omega) (by decide)) ?_
      rw [nI_clamp (n := ((34 * p) + i)) (by omega)]
      refine ar_go M_M_lead 2 _ 136 _ [some (.ref 56), some (.int (nI c)), some (.int (nI p)), some (.int (nI q)), some (.int (nI i)), some (.long (lN ((swR A p q i) ((34 * p) + i)))), none] _ [.ref 56] rfl ?_
      refine ar_get M_M_lead rfl rfl h56 rfl ?_
      refine ar_go M_M_lead 3 _ 143 _ [some (.ref 56), some (.int (nI c)), some (.int (nI p)), some (.int (nI q)), some (.int (nI i)), some (.long (lN ((swR A p q i) ((34 * p) + i)))), none] _ [.int (nI 34 * nI p), .ref 64] rfl ?_
      refine ar_top (w := .int (nI (34 * p))) (congrArg Value.int (pk_mul 34 p)) ?_
      refine ar_go M_M_lead 2 _ 146 _ [some (.ref 56), some (.int (nI c)), some (.int (nI p)), some (.int (nI q)), some (.int (nI i)), some (.long (lN ((swR A p q i) ((34 * p) + i)))), none] _ [.int (nI (34 * p) + nI i), .ref 64] rfl ?_
      refine ar_top (w := .int (nI ((34 * p) + i))) (congrArg Value.int (nI_add (34 * p) i)) ?_
      refine ar_go M_M_lead 1 _ 147 _ [some (.ref 56), some (.int (nI c)), some (.int (nI p)), some (.int (nI q)), some (.int (nI i)), some (.long (lN ((swR A p q i) ((34 * p) + i)))), none] _ [.ref 56, .int (nI ((34 * p) + i)), .ref 64] rfl ?_
      refine ar_get M_M_lead rfl rfl h56 rfl ?_
      refine ar_go M_M_lead 3 _ 154 _ [some (.ref 56), some (.int (nI c)), some (.int (nI p)), some (.int (nI q)), some (.int (nI i)), some (.long (lN ((swR A p q i) ((34 * p) + i)))), none] _ [.int (nI 34 * nI q), .ref 64, .int (nI ((34 * p) + i)), .ref 64] rfl ?_
      refine ar_top (w := .int (nI (34 * q))) (congrArg Value.int (pk_mul 34 q)) ?_
      refine ar_go M_M_lead 2 _ 157 _ [some (.ref 56), some (.int (nI c)), some (.int (nI p)), some (.int (nI q)), some (.int (nI i)), some (.long (lN ((swR A p q i) ((34 * p) + i)))), none] _ [.int (nI (34 * q) + nI i), .ref 64, .int (nI ((34 * p) + i)), .ref 64] rfl ?_
      refine ar_top (w := .int (nI ((34 * q) + i))) (congrArg Value.int (nI_add (34 * q) i)) ?_
      refine ar_lald M_M_lead rfl h64 (vp_in_nI (by omega) (by decide)) ?_
      rw [nI_clamp (n := ((34 * q) + i)) (by omega)]
      refine ar_last M_M_lead rfl h64 (vp_in_nI (by omega) (by decide)) (fun h2 hf he => ?_)
      rw [nI_clamp (n := ((34 * p) + i)) (by omega)] at he
      rw [updL_lN] at he
      have h56 := hf.at h56 (by simp only [List.mem_cons, List.not_mem_nil, or_false]; omega)
      have h64 : h2[64]? = some (.inl (1, 612, .inr (.inl (fun z9 => lN ((updN (swR A p q i) ((34 * p) + i) ((swR A p q i) ((34 * q) + i))) z9))))) := he
      have k1 := hf
      refine ar_go M_M_lead 1 _ 160 _ [some (.ref 56), some (.int (nI c)), some (.int (nI p)), some (.int (nI q)), some (.int (nI i)), some (.long (lN ((swR A p q i) ((34 * p) + i)))), none] _ [.ref 56] rfl ?_
      refine ar_get M_M_lead rfl rfl h56 rfl ?_
      refine ar_go M_M_lead 3 _ 167 _ [some (.ref 56), some (.int (nI c)), some (.int (nI p)), some (.int (nI q)), some (.int (nI i)), some (.long (lN ((swR A p q i) ((34 * p) + i)))), none] _ [.int (nI 34 * nI q), .ref 64] rfl ?_
      refine ar_top (w := .int (nI (34 * q))) (congrArg Value.int (pk_mul 34 q)) ?_
      refine ar_go M_M_lead 2 _ 170 _ [some (.ref 56), some (.int (nI c)), some (.int (nI p)), some (.int (nI q)), some (.int (nI i)), some (.long (lN ((swR A p q i) ((34 * p) + i)))), none] _ [.int (nI (34 * q) + nI i), .ref 64] rfl ?_
      refine ar_top (w := .int (nI ((34 * q) + i))) (congrArg Value.int (nI_add (34 * q) i)) ?_
      refine ar_go M_M_lead 1 _ 172 _ [some (.ref 56), some (.int (nI c)), some (.int (nI p)), some (.int (nI q)), some (.int (nI i)), some (.long (lN ((swR A p q i) ((34 * p) + i)))), none] _ [.long (lN ((swR A p q i) ((34 * p) + i))), .int (nI ((34 * q) + i)), .ref 64] rfl ?_
      refine ar_last M_M_lead rfl h64 (vp_in_nI (by omega) (by decide)) (fun h3 hf he => ?_)
      rw [nI_clamp (n := ((34 * q) + i)) (by omega)] at he
      rw [updL_lN] at he
      have h56 := hf.at h56 (by simp only [List.mem_cons, List.not_mem_nil, or_false]; omega)
      have h64 : h3[64]? = some (.inl (1, 612, .inr (.inl (fun z9 => lN ((updN (updN (swR A p q i) ((34 * p) + i) ((swR A p q i) ((34 * q) + i))) ((34 * q) + i) ((swR A p q i) ((34 * p) + i))) z9))))) := he
      have k2 := hf
      refine ar_go M_M_lead 1 _ 176 _ [some (.ref 56), some (.int (nI c)), some (.int (nI p)), some (.int (nI q)), some (.int (nI i + Int32.ofInt 1)), some (.long (lN ((swR A p q i) ((34 * p) + i)))), none] _ [] rfl ?_
      rw [show nI i + Int32.ofInt 1 = nI (i + 1) from nI_add i 1]
      refine ar_go M_M_lead 1 _ 114 _ [some (.ref 56), some (.int (nI c)), some (.int (nI p)), some (.int (nI q)), some (.int (nI (i + 1))), some (.long (lN ((swR A p q i) ((34 * p) + i)))), none] _ [] rfl ?_
      exact ih (i + 1) h3 _ (by omega) h56 h64 (hF.tr (k1.tr k2 (l := [64]) (fun _ z => z) (fun _ z => z)) (fun _ z => z) (fun _ z => z))
