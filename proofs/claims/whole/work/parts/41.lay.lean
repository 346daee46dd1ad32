/-! ===== the class's plans, by their places ===== -/
def kc (p : Nat) : Nat := p12.getD p 0
theorem kc_lt {p : Nat} (h : p < 12) : kc p < 24 ∧ kc p ∈ p12 := by
  have : ∀ p : Fin 12, kc p.1 < 24 ∧ kc p.1 ∈ p12 := by decide
  exact this ⟨p, h⟩
theorem choice_eq {p : Nat} (h : p < 12) : am_choice p = J (kc p) := by
  have : ∀ p : Fin 12, am_choice p.1 = J (kc p.1) := by decide +kernel
  exact this ⟨p, h⟩
/-- what a plan of m folds leaves -/
def PLs (n : Nat) (S : St) (m p : Nat) : Option St :=
  if m = 0 then some S
  else if m = 1 then (if vl S (kc p) then some (stp n S (kc p)) else none)
  else (if vl S (kc (p / 12)) then (if vl (stp n S (kc (p / 12))) (kc (p % 12)) then some (stp n (stp n S (kc (p / 12))) (kc (p % 12))) else none) else none)
def rw_ (m p : Nat) : List Nat := if m = 0 then [] else if m = 1 then [kc p] else [kc (p / 12), kc (p % 12)]
def plN (m : Nat) : Nat := if m = 0 then 1 else if m = 1 then 12 else 144
theorem plans_eq {m : Nat} (h : m ≤ 2) : am_plans m = J (plN m : Nat) := by
  have : ∀ m : Fin 3, am_plans m.1 = J (plN m.1 : Nat) := by decide +kernel
  exact this ⟨m, by omega⟩
def dfs (n : Nat) (lf : St → Option (List Nat)) : Nat → St → Option (List Nat)
  | 0, S => lf S
  | m + 1, S => p12.findSome? (fun k => if vl S k then (dfs n lf m (stp n S k)).map (k :: ·) else none)
theorem rS_dfs (n : Nat) (T : Pk → Bool) : ∀ (m : Nat) (S : St), rS n T p12 m S = dfs n (fun S => if T S.2 then some [] else none) m S
  | 0, S => rfl
  | m + 1, S => by
    unfold rS dfs
    congr 1
    funext k
    rw [rS_dfs n T m]
theorem rM_dfs (n a b : Nat) : ∀ (m : Nat) (S : St), rM n a b m S = dfs n (fun S => (mt n a b S).map ([·])) m S
  | 0, S => rfl
  | m + 1, S => by
    unfold rM dfs
    congr 1
    funext k
    rw [rM_dfs n a b m]
def Fp (n : Nat) (lf : St → Option (List Nat)) (S : St) (m p : Nat) : Option (List Nat) := (PLs n S m p).bind (fun S' => (lf S').map (rw_ m p ++ ·))
theorem p12_len : p12.length = 12 := rfl
theorem dfs_at {n : Nat} {lf : St → Option (List Nat)} {S : St} {m p : Nat} {v : List Nat} (hm : m ≤ 2) (hp : p < plN m) (h0 : ∀ p', p' < p → Fp n lf S m p' = none) (h1 : Fp n lf S m p = some v) : dfs n lf m S = some v := by
  rcases (show m = 0 ∨ m = 1 ∨ m = 2 by omega) with e | e | e
  · subst e
    unfold Fp PLs rw_ at h1
    show lf S = some v
    simpa using h1
  · subst e
    refine fs_at (j := p) (by rw [p12_len]; exact hp) (fun i hi => ?_) ?_
    · have := h0 i hi
      unfold Fp PLs rw_ at this
      simp only [Nat.one_ne_zero, if_false, if_true] at this
      show (if vl S (kc i) then (lf (stp n S (kc i))).map (kc i :: ·) else none) = none
      by_cases q : vl S (kc i)
      · rw [if_pos q] at this ⊢; simpa using this
      · rw [if_neg q]
    · unfold Fp PLs rw_ at h1
      simp only [Nat.one_ne_zero, if_false, if_true] at h1
      show (if vl S (kc p) then (lf (stp n S (kc p))).map (kc p :: ·) else none) = some v
      by_cases q : vl S (kc p)
      · rw [if_pos q] at h1 ⊢; simpa using h1
      · rw [if_neg q] at h1; cases h1
  · subst e
    have hp : p < 144 := hp
    have F2 : ∀ i j, j < 12 → Fp n lf S 2 (12 * i + j) = (if vl S (kc i) then (if vl (stp n S (kc i)) (kc j) then (lf (stp n (stp n S (kc i)) (kc j))).map ([kc i, kc j] ++ ·) else none) else none) := by
      intro i j hj
      unfold Fp PLs rw_
      have e1 : (12 * i + j) / 12 = i := by omega
      have e2 : (12 * i + j) % 12 = j := by omega
      simp only [e1, e2, show ¬ (2 : Nat) = 0 by decide, show ¬ (2 : Nat) = 1 by decide, if_false]
      by_cases q : vl S (kc i)
      · rw [if_pos q, if_pos q]
        by_cases q2 : vl (stp n S (kc i)) (kc j)
        · rw [if_pos q2, if_pos q2]; rfl
        · rw [if_neg q2, if_neg q2]; rfl
      · rw [if_neg q, if_neg q]; rfl
    have ep : p = 12 * (p / 12) + p % 12 := by omega
    refine fs_at (j := p / 12) (by rw [p12_len]; omega) (fun i hi => ?_) ?_
    · show (if vl S (kc i) then (dfs n lf 1 (stp n S (kc i))).map (kc i :: ·) else none) = none
      by_cases q : vl S (kc i)
      · rw [if_pos q]
        have : dfs n lf 1 (stp n S (kc i)) = none := by
          refine fs_none (fun j hj => ?_)
          rw [p12_len] at hj
          have := h0 (12 * i + j) (by omega)
          rw [F2 i j hj, if_pos q] at this
          show (if vl (stp n S (kc i)) (kc j) then (lf (stp n (stp n S (kc i)) (kc j))).map (kc j :: ·) else none) = none
          by_cases q2 : vl (stp n S (kc i)) (kc j)
          · rw [if_pos q2] at this ⊢; simpa using this
          · rw [if_neg q2]
        rw [this]; rfl
      · rw [if_neg q]
    · rw [ep, F2 _ _ (by omega)] at h1
      show (if vl S (kc (p / 12)) then (dfs n lf 1 (stp n S (kc (p / 12)))).map (kc (p / 12) :: ·) else none) = some v
      by_cases q : vl S (kc (p / 12))
      · rw [if_pos q] at h1 ⊢
        by_cases q2 : vl (stp n S (kc (p / 12))) (kc (p % 12))
        · rw [if_pos q2] at h1
          cases hl : lf (stp n (stp n S (kc (p / 12))) (kc (p % 12))) with
          | none => rw [hl] at h1; cases h1
          | some r =>
            rw [hl] at h1
            have : dfs n lf 1 (stp n S (kc (p / 12))) = some (kc (p % 12) :: r) := by
              refine fs_at (j := p % 12) (by rw [p12_len]; omega) (fun j hj => ?_) ?_
              · have := h0 (12 * (p / 12) + j) (by omega)
                rw [F2 _ j (by omega), if_pos q] at this
                show (if vl (stp n S (kc (p / 12))) (kc j) then (lf (stp n (stp n S (kc (p / 12))) (kc j))).map (kc j :: ·) else none) = none
                by_cases q3 : vl (stp n S (kc (p / 12))) (kc j)
                · rw [if_pos q3] at this ⊢; simpa using this
                · rw [if_neg q3]
              · show (if vl (stp n S (kc (p / 12))) (kc (p % 12)) then (lf (stp n (stp n S (kc (p / 12))) (kc (p % 12)))).map (kc (p % 12) :: ·) else none) = _
                rw [if_pos q2, hl]; rfl
            rw [this]
            simpa using h1
        · rw [if_neg q2] at h1; cases h1
      · rw [if_neg q] at h1; cases h1
theorem dfs_none {n : Nat} {lf : St → Option (List Nat)} {S : St} {m : Nat} (hm : m ≤ 2) (h0 : ∀ p, p < plN m → Fp n lf S m p = none) : dfs n lf m S = none := by
  rcases (show m = 0 ∨ m = 1 ∨ m = 2 by omega) with e | e | e
  · subst e
    have := h0 0 (by decide)
    unfold Fp PLs rw_ at this
    show lf S = none
    simpa using this
  · subst e
    refine fs_none (fun i hi => ?_)
    rw [p12_len] at hi
    have := h0 i hi
    unfold Fp PLs rw_ at this
    simp only [Nat.one_ne_zero, if_false, if_true] at this
    show (if vl S (kc i) then (lf (stp n S (kc i))).map (kc i :: ·) else none) = none
    by_cases q : vl S (kc i)
    · rw [if_pos q] at this ⊢; simpa using this
    · rw [if_neg q]
  · subst e
    refine fs_none (fun i hi => ?_)
    rw [p12_len] at hi
    show (if vl S (kc i) then (dfs n lf 1 (stp n S (kc i))).map (kc i :: ·) else none) = none
    by_cases q : vl S (kc i)
    · rw [if_pos q]
      have : dfs n lf 1 (stp n S (kc i)) = none := by
        refine fs_none (fun j hj => ?_)
        rw [p12_len] at hj
        have := h0 (12 * i + j) (by show _ < 144; omega)
        unfold Fp PLs rw_ at this
        have e1 : (12 * i + j) / 12 = i := by omega
        have e2 : (12 * i + j) % 12 = j := by omega
        simp only [e1, e2, show ¬ (2 : Nat) = 0 by decide, show ¬ (2 : Nat) = 1 by decide, if_false] at this
        rw [if_pos q] at this
        show (if vl (stp n S (kc i)) (kc j) then (lf (stp n (stp n S (kc i)) (kc j))).map (kc j :: ·) else none) = none
        by_cases q2 : vl (stp n S (kc i)) (kc j)
        · rw [if_pos q2] at this ⊢; simpa using this
        · rw [if_neg q2]
      rw [this]; rfl
    · rw [if_neg q]
/-! a fold is laid -/
theorem HP.sp {n : Nat} {S : St} {σ z : Sg} (h : HP n S z) (b m : Nat) (hm : 5 ≤ m) : HP n S (sg_off (sg_sp σ b m z) b) := h.cong (fun q hq => by
  funext i
  rw [sof, sps (by omega)]
  congr 1; omega)
theorem layFold0_ok {n : Nat} {S : St} {g : Sg} (w : WF n S) (h : HP n S (sg_off g 4)) {p : Nat} (hp : p < 12) : Ok (f_X5_layFold g (J 0) (J p)) (fun z => (vl S (kc p) ∧ z.1 = J 1 ∧ HP n (stp n S (kc p)) (sg_off z.2 10) ∧ z.2 2 0 = J (kc p) ∧ (∀ i, i ≠ 0 → z.2 2 i = g 2 i) ∧ ∀ q, q ≠ 2 → ¬ (10 ≤ q ∧ q < 16) → z.2 q = g q) ∨ (¬ vl S (kc p) ∧ z = (J 0, g))) := by
  have hk := (kc_lt hp).1
  simp (disch := omega) only [f_X5_layFold, L0, L1, L2, L3, L4, L5, L6, L7, L8, L9, L10, L11, L12, L16, L21, L22, L24, L28, L32, L35, L40, L48, L57, L59, L64, L97, L100, L122, L200, L1000000, chk_J, jlt, jle, jeq, jcl, J_add, J_sub, J_mul, J_neg, Int.toNat_natCast, Option.bind_some, sgs, sgn, if_true, if_false, Int.toNat_zero, Int.toNat_one, choice_eq hp]
  rw [if_neg (by omega), if_neg (by omega), if_neg (by omega), if_pos (by omega), canBend_eq w h hk]
  simp (disch := omega) only [L0, L1, L2, L3, L4, L5, L6, L7, L8, L9, L10, L11, L12, L16, L21, L22, L24, L28, L32, L35, L40, L48, L57, L59, L64, L97, L100, L122, L200, L1000000, chk_J, jlt, jle, jeq, jcl, J_add, J_sub, J_mul, J_neg, Int.toNat_natCast, Option.bind_some, sgs, sgn, if_true, if_false, Int.toNat_zero, Int.toNat_one]
  by_cases v : vl S (kc p)
  · rw [if_pos v]
    simp (disch := omega) only [j_X5_layFold_1, L0, L1, L2, L3, L4, L5, L6, L7, L8, L9, L10, L11, L12, L16, L21, L22, L24, L28, L32, L35, L40, L48, L57, L59, L64, L97, L100, L122, L200, L1000000, chk_J, jlt, jle, jeq, jcl, J_add, J_sub, J_mul, J_neg, Int.toNat_natCast, Option.bind_some, sgs, sgn, if_true, if_false, Int.toNat_zero, Int.toNat_one, choice_eq hp]
    rw [if_neg (by omega), if_neg (by omega), if_pos (by omega), Ok_bind]
    refine (copy_ok (n := n) (S := S) w.1 ?_).mono (fun z1 hz1 => ?_)
    · exact h.cong (fun q hq => by funext i; rw [sof, sof, sgn (by omega)])
    · simp (disch := omega) only [j_X5_layFold_2, L0, L1, L2, L3, L4, L5, L6, L7, L8, L9, L10, L11, L12, L16, L21, L22, L24, L28, L32, L35, L40, L48, L57, L59, L64, L97, L100, L122, L200, L1000000, chk_J, jlt, jle, jeq, jcl, J_add, J_sub, J_mul, J_neg, Int.toNat_natCast, Option.bind_some, sgs, sgn, if_true, if_false, Int.toNat_zero, Int.toNat_one, choice_eq hp]
      rw [if_neg (by omega), if_pos (by omega), Ok_bind]
      refine (bend_ok w hk (HP.sp hz1 10 6 (by omega))).mono (fun z2 hz2 => ?_)
      rw [Ok_some]
      refine Or.inl ⟨v, rfl, HP.sp hz2 10 6 (by omega), ?_, fun i hi => ?_, fun q h1 h2 => ?_⟩
      · dsimp only; rw [spn (by omega), spn (by omega), sgs]; rfl
      · dsimp only; rw [spn (by omega), spn (by omega), sgs, if_neg hi]
      · funext i
        dsimp only
        rw [spn (by omega), spn (by omega), sgn (by omega)]
  · rw [if_neg v]
    simp (disch := omega) only [j_X5_layFold_1, L0, L1, L2, L3, L4, L5, L6, L7, L8, L9, L10, L11, L12, L16, L21, L22, L24, L28, L32, L35, L40, L48, L57, L59, L64, L97, L100, L122, L200, L1000000, chk_J, jlt, jle, jeq, jcl, J_add, J_sub, J_mul, J_neg, Int.toNat_natCast, Option.bind_some, sgs, sgn, if_true, if_false, Int.toNat_zero, Int.toNat_one]
    rw [Ok_some]
    exact Or.inr ⟨v, rfl⟩
theorem layFold1_ok {n : Nat} {S : St} {g : Sg} (w : WF n S) (h : HP n S (sg_off g 10)) {p : Nat} (hp : p < 12) : Ok (f_X5_layFold g (J 1) (J p)) (fun z => (vl S (kc p) ∧ z.1 = J 1 ∧ HP n (stp n S (kc p)) (sg_off z.2 16) ∧ z.2 2 1 = J (kc p) ∧ (∀ i, i ≠ 1 → z.2 2 i = g 2 i) ∧ ∀ q, q ≠ 2 → ¬ (16 ≤ q ∧ q < 22) → z.2 q = g q) ∨ (¬ vl S (kc p) ∧ z = (J 0, g))) := by
  have hk := (kc_lt hp).1
  simp (disch := omega) only [f_X5_layFold, L0, L1, L2, L3, L4, L5, L6, L7, L8, L9, L10, L11, L12, L16, L21, L22, L24, L28, L32, L35, L40, L48, L57, L59, L64, L97, L100, L122, L200, L1000000, chk_J, jlt, jle, jeq, jcl, J_add, J_sub, J_mul, J_neg, Int.toNat_natCast, Option.bind_some, sgs, sgn, if_true, if_false, Int.toNat_zero, Int.toNat_one, choice_eq hp]
  rw [if_neg (by omega), if_neg (by omega), if_neg (by omega), if_pos (by omega), if_neg (by omega), canBend_eq w h hk]
  simp (disch := omega) only [L0, L1, L2, L3, L4, L5, L6, L7, L8, L9, L10, L11, L12, L16, L21, L22, L24, L28, L32, L35, L40, L48, L57, L59, L64, L97, L100, L122, L200, L1000000, chk_J, jlt, jle, jeq, jcl, J_add, J_sub, J_mul, J_neg, Int.toNat_natCast, Option.bind_some, sgs, sgn, if_true, if_false, Int.toNat_zero, Int.toNat_one]
  by_cases v : vl S (kc p)
  · rw [if_pos v]
    simp (disch := omega) only [j_X5_layFold_1, L0, L1, L2, L3, L4, L5, L6, L7, L8, L9, L10, L11, L12, L16, L21, L22, L24, L28, L32, L35, L40, L48, L57, L59, L64, L97, L100, L122, L200, L1000000, chk_J, jlt, jle, jeq, jcl, J_add, J_sub, J_mul, J_neg, Int.toNat_natCast, Option.bind_some, sgs, sgn, if_true, if_false, Int.toNat_zero, Int.toNat_one, choice_eq hp]
    rw [if_neg (by omega), if_neg (by omega), if_neg (by omega), if_pos (by omega), if_neg (by omega), Ok_bind]
    refine (copy_ok (n := n) (S := S) w.1 ?_).mono (fun z1 hz1 => ?_)
    · exact h.cong (fun q hq => by funext i; rw [sof, sof, sgn (by omega)])
    · simp (disch := omega) only [j_X5_layFold_2, L0, L1, L2, L3, L4, L5, L6, L7, L8, L9, L10, L11, L12, L16, L21, L22, L24, L28, L32, L35, L40, L48, L57, L59, L64, L97, L100, L122, L200, L1000000, chk_J, jlt, jle, jeq, jcl, J_add, J_sub, J_mul, J_neg, Int.toNat_natCast, Option.bind_some, sgs, sgn, if_true, if_false, Int.toNat_zero, Int.toNat_one, choice_eq hp]
      rw [if_neg (by omega), if_neg (by omega), if_pos (by omega), Ok_bind]
      refine (bend_ok w hk (HP.sp hz1 16 6 (by omega))).mono (fun z2 hz2 => ?_)
      rw [Ok_some]
      refine Or.inl ⟨v, rfl, HP.sp hz2 16 6 (by omega), ?_, fun i hi => ?_, fun q h1 h2 => ?_⟩
      · dsimp only; rw [spn (by omega), spn (by omega), sgs]; rfl
      · dsimp only; rw [spn (by omega), spn (by omega), sgs, if_neg hi]
      · funext i
        dsimp only
        rw [spn (by omega), spn (by omega), sgn (by omega)]
  · rw [if_neg v]
    simp (disch := omega) only [j_X5_layFold_1, L0, L1, L2, L3, L4, L5, L6, L7, L8, L9, L10, L11, L12, L16, L21, L22, L24, L28, L32, L35, L40, L48, L57, L59, L64, L97, L100, L122, L200, L1000000, chk_J, jlt, jle, jeq, jcl, J_add, J_sub, J_mul, J_neg, Int.toNat_natCast, Option.bind_some, sgs, sgn, if_true, if_false, Int.toNat_zero, Int.toNat_one]
    rw [Ok_some]
    exact Or.inr ⟨v, rfl⟩
