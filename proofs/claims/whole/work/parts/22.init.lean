/-! The law's start: both objects are made -/
def am_to (P : am_P) (X : am_X) (F : Nat) : Nat → Nat → Nat → Nat → am_L → List Value → am_H → Option am_S
  | 0, _, _, pc, ls, st, h => some (pc, ls, st, h)
  | n + 1, d, j, pc, ls, st, h => match P.1[j]? with
    | none => none
    | some M => match M.2.2.2.2.2[pc]? with
      | some (some (i, _)) => match am_exP P X d M i pc ls st h with
        | some (pc', ls', st') => am_to P X F n d j pc' ls' st' h
        | none => match am_exH P d M i pc ls st h with
          | some (pc', ls', st', h1) => if h.length ≤ h1.length ∧ am_sz h ≤ am_sz h1 then am_to P X F n d j pc' ls' st' h1 else none
          | none => match am_exC P M i st h with
            | some (.inl _) => none
            | some (.inr (j2, as, st')) => match d with
              | 0 => none
              | d1 + 1 => match P.1[j2]? with
                | none => none
                | some M2 => if (am_en as).length ≤ M2.2.2.1 then match am_run P X F d1 j2 0 (am_pad M2.2.2.1 (am_en as)) [] h with
                  | none => none
                  | some (r, h1) => if (am_co h.length ls && am_cs h.length st' && decide (h.length < 1000)) = true then am_to P X F n (d1 + 1) j (pc + 3) ls (r.toList ++ st') h1 else none
                  else none
            | none => none
      | _ => none
theorem ar_to {P : am_P} {X : am_X} {F : Nat} {Q : Option Value → am_H → Prop} : ∀ (n d j pc pc' : Nat) (ls ls' : am_L) (st st' : List Value) (h h' : am_H), am_to P X F n d j pc ls st h = some (pc', ls', st', h') → ar P X d j pc' ls' st' h' Q → ar P X d j pc ls st h Q := by
  intro n
  induction n with
  | zero =>
    intro d j pc pc' ls ls' st st' h h' hr k
    cases hr
    exact k
  | succ n ih =>
    intro d j pc pc' ls ls' st st' h h' hr k
    rw [am_to] at hr
    split at hr
    next => cases hr
    next M hM =>
      split at hr
      next i len hi =>
        split at hr
        next pc1 ls1 st1 hp => exact ar_P hM hi hp (ih _ _ _ _ _ _ _ _ _ _ hr k)
        next hp =>
          split at hr
          next pc1 ls1 st1 h1 hh =>
            split at hr
            next hm => exact ar_H hM hi hp hh hm (ih _ _ _ _ _ _ _ _ _ _ hr k)
            next => cases hr
          next hh =>
            split at hr
            next r0 hc => cases hr
            next j2 as st1 hc =>
              split at hr
              next => cases hr
              next d1 =>
                split at hr
                next => cases hr
                next M2 hM2 =>
                  split at hr
                  next hle =>
                    split at hr
                    next => cases hr
                    next r1 h1 hrun =>
                      split at hr
                      next hcl => exact ar_CN (Q1 := fun r h => r = r1 ∧ h = h1) hM hi hp hh hc hM2 hle hcl ⟨_, _, _, hrun, rfl, rfl⟩ (fun r h2 e => by rw [e.1, e.2]; exact ih _ _ _ _ _ _ _ _ _ _ hr k)
                      next => cases hr
                  next => cases hr
            next => cases hr
      next => cases hr
def am_h0 : am_H := [.inr (0, [.ref 1, .ref 2, .ref 6, .ref 10, .long 0]),
  .inl (4, 4, .inr (.inr (.inr (.inr (va_up (va_up (va_up (va_up (fun _ => none) 0 (some 40)) 1 (some 44)) 2 (some 48)) 3 (some 52)))))),
  .inr (1, [.ref 3, .ref 4, .ref 5, .int 0]),
  .inl (0, 64, .inl (fun _ => 0)),
  .inl (0, 64, .inl (fun _ => 0)),
  .inl (2, 64, .inl (fun _ => 0)),
  .inr (1, [.ref 7, .ref 8, .ref 9, .int 0]),
  .inl (0, 64, .inl (fun _ => 0)),
  .inl (0, 64, .inl (fun _ => 0)),
  .inl (2, 64, .inl (fun _ => 0)),
  .inr (4, [.ref 11, .ref 13, .ref 15, .ref 17, .ref 19, .ref 38, .ref 39]),
  .inr (2, [.ref 12, .int 0]),
  .inl (1, 17, .inr (.inl (vp_updL (fun _ => 0) 0 1))),
  .inr (2, [.ref 14, .int 0]),
  .inl (1, 17, .inr (.inl (vp_updL (fun _ => 0) 0 1))),
  .inr (2, [.ref 16, .int 0]),
  .inl (1, 17, .inr (.inl (vp_updL (fun _ => 0) 0 1))),
  .inr (2, [.ref 18, .int 0]),
  .inl (1, 17, .inr (.inl (vp_updL (fun _ => 0) 0 1))),
  .inr (3, [.ref 20, .ref 37, .int 0]),
  .inl (3, 16, .inr (.inr (.inr (.inr (fun i => if i < 16 then some (21 + i) else none))))),
  .inl (1, 17, .inr (.inl (fun _ => 0))),
  .inl (1, 17, .inr (.inl (fun _ => 0))),
  .inl (1, 17, .inr (.inl (fun _ => 0))),
  .inl (1, 17, .inr (.inl (fun _ => 0))),
  .inl (1, 17, .inr (.inl (fun _ => 0))),
  .inl (1, 17, .inr (.inl (fun _ => 0))),
  .inl (1, 17, .inr (.inl (fun _ => 0))),
  .inl (1, 17, .inr (.inl (fun _ => 0))),
  .inl (1, 17, .inr (.inl (fun _ => 0))),
  .inl (1, 17, .inr (.inl (fun _ => 0))),
  .inl (1, 17, .inr (.inl (fun _ => 0))),
  .inl (1, 17, .inr (.inl (fun _ => 0))),
  .inl (1, 17, .inr (.inl (fun _ => 0))),
  .inl (1, 17, .inr (.inl (fun _ => 0))),
  .inl (1, 17, .inr (.inl (fun _ => 0))),
  .inl (1, 17, .inr (.inl (fun _ => 0))),
  .inl (0, 16, .inl (fun _ => 0)),
  .inl (1, 18, .inr (.inl (fun _ => 0))),
  .inl (1, 18, .inr (.inl (fun _ => 0))),
  .inr (1, [.ref 41, .ref 42, .ref 43, .int 0]),
  .inl (0, 64, .inl (fun _ => 0)),
  .inl (0, 64, .inl (fun _ => 0)),
  .inl (2, 64, .inl (fun _ => 0)),
  .inr (1, [.ref 45, .ref 46, .ref 47, .int 0]),
  .inl (0, 64, .inl (fun _ => 0)),
  .inl (0, 64, .inl (fun _ => 0)),
  .inl (2, 64, .inl (fun _ => 0)),
  .inr (1, [.ref 49, .ref 50, .ref 51, .int 0]),
  .inl (0, 64, .inl (fun _ => 0)),
  .inl (0, 64, .inl (fun _ => 0)),
  .inl (2, 64, .inl (fun _ => 0)),
  .inr (1, [.ref 53, .ref 54, .ref 55, .int 0]),
  .inl (0, 64, .inl (fun _ => 0)),
  .inl (0, 64, .inl (fun _ => 0)),
  .inl (2, 64, .inl (fun _ => 0)),
  .inr (5, [.ref 57, .ref 58, .ref 59, .ref 60, .ref 61, .long 0, .ref 62, .ref 63, .int 0, .int 0, .int 0, .ref 64, .ref 65, .ref 66, .ref 67, .int 0, .int 0, .ref 68, .ref 69, .ref 70, .int 0, .int 0, .ref 71, .ref 72, .ref 73, .ref 74, .ref 75]),
  .inl (0, 4, .inl (fun _ => 0)),
  .inl (0, 256, .inl (fun _ => 0)),
  .inl (0, 256, .inl (fun _ => 0)),
  .inl (0, 256, .inl (fun _ => 0)),
  .inl (2, 256, .inl (fun _ => 0)),
  .inl (1, 17, .inr (.inl (vp_updL (fun _ => 0) 0 1))),
  .inl (1, 17, .inr (.inl (vp_updL (fun _ => 0) 0 1))),
  .inl (1, 612, .inr (.inl (fun _ => 0))),
  .inl (1, 18, .inr (.inl (fun _ => 0))),
  .inl (1, 17, .inr (.inl (fun _ => 0))),
  .inl (1, 17, .inr (.inl (fun _ => 0))),
  .inl (1, 17, .inr (.inl (fun _ => 0))),
  .inl (1, 17, .inr (.inl (fun _ => 0))),
  .inl (1, 17, .inr (.inl (fun _ => 0))),
  .inl (0, 128, .inl (fun _ => 0)),
  .inl (0, 128, .inl (fun _ => 0)),
  .inl (0, 128, .inl (fun _ => 0)),
  .inl (0, 128, .inl (fun _ => 0)),
  .inl (2, 128, .inl (fun _ => 0))]
set_option maxRecDepth 1000000 in
set_option maxHeartbeats 0 in
theorem am_init (X : am_X) : am_to Pg X 400 10 10 n_L_law 0 [some (.ref am_x0), none, none, none] [] [] = some (18, [some (.ref am_x0), some (.ref 0), some (.ref 56), some (.int 0)], [], am_h0) := by
  rfl
