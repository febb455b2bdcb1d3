/-! The start: both objects new -/
def e1A : Nat → Nat := updN (fun _ => 0) 0 1
theorem e1_L : vp_updL (fun _ => (0 : Int64)) 0 1 = fun i => lN (e1A i) := updL_lN (fun _ => 0) 0 1
theorem e1_17 : lt17 e1A := by
  intro i _
  unfold e1A updN
  by_cases h : i = 0
  · rw [if_pos h]
    decide
  · rw [if_neg h]
    show 0 < 2147483647
    decide
theorem z_17 : lt17 (fun _ => 0) := fun _ _ => by
  show 0 < 2147483647
  decide
def S00 : Sg := (fun _ => [], 0, 0, e1A, 0, e1A)
theorem st_R {r : Nat} (h1 : am_h0[r]? = some (.inr (1, [.ref (r + 1), .ref (r + 2), .ref (r + 3), .int 0]))) (h2 : am_h0[r + 1]? = some (.inl (0, 64, .inl (fun _ => 0)))) (h3 : am_h0[r + 2]? = some (.inl (0, 64, .inl (fun _ => 0)))) (h4 : am_h0[r + 3]? = some (.inl (2, 64, .inl (fun _ => 0)))) : isR am_h0 r [] :=
  ⟨by decide, h1, _, _, _, h2, h3, h4, fun i hi => absurd hi (Nat.not_lt_zero i)⟩
theorem st_P {y : Nat} (h1 : am_h0[y]? = some (.inr (2, [.ref (y + 1), .int 0]))) (h2 : am_h0[y + 1]? = some (.inl (1, 17, .inr (.inl (vp_updL (fun _ => 0) 0 1))))) : isP am_h0 y (0 + 1) e1A := by
  refine ⟨by decide, h1, ?_, e1_17⟩
  unfold isLA
  rw [h2, e1_L]
theorem st_K : isK am_h0 (fun _ => []) := by
  intro b hb
  have hS : bkS [] := fun i j _ hj => absurd hj (Nat.not_lt_zero j)
  have hV : bkV [] := fun i hi => absurd hi (Nat.not_lt_zero i)
  match b, hb with
  | 0, _ => exact ⟨st_R rfl rfl rfl rfl, hS, hV⟩
  | 1, _ => exact ⟨st_R rfl rfl rfl rfl, hS, hV⟩
  | 2, _ => exact ⟨st_R rfl rfl rfl rfl, hS, hV⟩
  | 3, _ => exact ⟨st_R rfl rfl rfl rfl, hS, hV⟩
theorem st_rows : ∀ i, i < 16 → am_h0[21 + i]? = some (.inl (1, 17, .inr (.inl (fun _ => 0)))) := by
  intro i hi
  match i, hi with
  | 0, _ => exact rfl
  | 1, _ => exact rfl
  | 2, _ => exact rfl
  | 3, _ => exact rfl
  | 4, _ => exact rfl
  | 5, _ => exact rfl
  | 6, _ => exact rfl
  | 7, _ => exact rfl
  | 8, _ => exact rfl
  | 9, _ => exact rfl
  | 10, _ => exact rfl
  | 11, _ => exact rfl
  | 12, _ => exact rfl
  | 13, _ => exact rfl
  | 14, _ => exact rfl
  | 15, _ => exact rfl
  | k + 16, h9 => exact absurd h9 (by omega)
theorem st_Q : isQ am_h0 (fun i => 21 + i) 0 (fun _ _ => 0) (fun _ => some 0) :=
  ⟨rfl, ⟨_, rfl, fun i hi => if_pos hi⟩, ⟨fun i hi => ⟨Nat.le_add_right 21 i, (by show 21 + i < 37; omega)⟩, fun i j _ _ h => (by have h : 21 + i = 21 + j := h; omega)⟩, st_rows, fun _ _ => z_17, rfl⟩
theorem st_B1 : isB1 am_h0 := by
  refine ⟨_, rfl, ?_⟩
  intro b hb
  match b, hb with
  | 0, _ => exact rfl
  | 1, _ => exact rfl
  | 2, _ => exact rfl
  | 3, _ => exact rfl
theorem st_S : isS am_h0 S00 :=
  ⟨rfl, st_B1, st_K, ⟨rfl, ⟨[], st_R rfl rfl rfl rfl⟩, ⟨[], st_R rfl rfl rfl rfl⟩, ⟨_, _, st_P rfl rfl⟩, ⟨_, _, st_P rfl rfl⟩, ⟨_, _, _, _, st_Q⟩, ⟨fun _ => 0, rfl, fun _ _ => (by show 0 < 2147483647; decide)⟩, ⟨fun _ => 0, rfl, fun _ _ => (by show 0 < 2147483647; decide)⟩⟩, e1A, e1A, st_P rfl rfl, st_P rfl rfl, fun _ _ => rfl, fun _ _ => rfl⟩
theorem st_LA {y : Nat} (h2 : am_h0[y]? = some (.inl (1, 17, .inr (.inl (vp_updL (fun _ => 0) 0 1))))) : isLA am_h0 y 17 e1A := by
  unfold isLA
  rw [h2, e1_L]
theorem st_MS : isMS am_h0 S00 := by
  have hg : gB [] := ⟨by decide, fun i j _ hj => absurd hj (Nat.not_lt_zero j), fun i hi => absurd hi (Nat.not_lt_zero i)⟩
  refine ⟨⟨0, 0, 0, 0, 0, rfl⟩, ⟨_, _, _, _, _, ⟨rfl, rfl, rfl, rfl, rfl⟩, fun b _ => ⟨rfl, hg, fun i hi => absurd hi (Nat.not_lt_zero i)⟩⟩, ⟨[], by decide, _, _, _, _, _, ⟨rfl, rfl, rfl, rfl, rfl⟩, fun i hi => absurd hi (Nat.not_lt_zero i)⟩, ?_, ?_⟩
  · exact ⟨⟨fun _ => 0, rfl, fun _ _ => (by show 0 < 2147483647; decide)⟩, ⟨fun _ => 0, rfl, fun _ _ => (by show 0 < 2147483648; decide)⟩, ⟨fun _ => 0, rfl, z_17⟩, ⟨fun _ => 0, rfl, z_17⟩, ⟨fun _ => 0, rfl, z_17⟩, ⟨fun _ => 0, rfl, z_17⟩, ⟨fun _ => 0, rfl, z_17⟩⟩
  · exact ⟨by decide, by decide, e1A, e1A, st_LA rfl, e1_17, st_LA rfl, e1_17, fun _ _ => rfl, fun _ _ => rfl⟩
theorem am_lawp : am_law := by
  intro L xs hL
  refine ar_to 10 10 n_L_law 0 18 _ _ [] [] [] am_h0 (am_init (am_xs L xs)) ?_
  refine ar_mono (lw_loop hL (L + 5) 0 am_h0 S00 (by omega) (by omega) ⟨st_S, st_MS, fr.rf _ _⟩) (fun r h' z => ?_)
  obtain ⟨z1, z2⟩ := z
  refine ⟨z1, ?_, ?_⟩
  · rw [z2.len]
    decide
  · rw [z2.sz]
    decide +kernel
