/-! ===== the fold by which two meet ===== -/
theorem J_divI {a b : Int} (ha : 0 ≤ a ∧ a ≤ 1000000000) (hb : 1 ≤ b ∧ b ≤ 1000000000) : J a / J b = J (a / b) := by
  have h := J_div (a := a.toNat) (b := b.toNat) (by omega) (by omega) (by omega)
  have e1 : ((a.toNat : Nat) : Int) = a := by omega
  have e2 : ((b.toNat : Nat) : Int) = b := by omega
  have e3 : ((a.toNat / b.toNat : Nat) : Int) = a / b := by rw [Int.natCast_ediv, e1, e2]
  rw [e1, e2, e3] at h
  exact h
def enc1 (o : Option Nat) : Int := match o with
  | none => -9
  | some k => (k : Int)
theorem find_no {l : List Nat} {p : Nat → Bool} (h : ∀ k ∈ l, ¬ p k = true) : l.find? p = none := List.find?_eq_none.mpr h
theorem find_one {k0 : Nat} {p : Nat → Bool} : ∀ {l : List Nat}, k0 ∈ l → p k0 = true → (∀ k ∈ l, p k = true → k = k0) → l.find? p = some k0
  | [], h, _, _ => by simp at h
  | x :: l, h, hp, hu => by
    rw [List.find?_cons]
    cases hx : p x
    · have : k0 ∈ l := by
        rcases List.mem_cons.mp h with e | e
        · subst e; rw [hx] at hp; cases hp
        · exact e
      exact find_one this hp (fun k hk => hu k (by simp [hk]))
    · rw [hu x (by simp) hx]
theorem p12_props : ∀ k ∈ p12, k < 24 ∧ k / 2 % 2 = 0 ∧ k = k % 2 + 4 * (k / 4 % 2) + 8 * (k / 8) := by decide
theorem mk_p12 {x y z : Nat} (hx : x < 2) (hy : y < 2) (hz : z < 3) : x + 4 * y + 8 * z ∈ p12 := by
  have : ∀ (x : Fin 2) (y : Fin 2) (z : Fin 3), x.1 + 4 * y.1 + 8 * z.1 ∈ p12 := by decide
  exact this ⟨x, hx⟩ ⟨y, hy⟩ ⟨z, hz⟩
theorem MC_iff {n : Nat} {S : St} {a b k : Nat} : MC n S a b k ↔ (S.2 (1 - k % 2) a = S.2 (1 - k % 2) b ∧ S.2 (k % 2) a + S.2 (k % 2) b = 2 * ((k / 8 : Nat) : Int) + 1 ∧ S.2 3 a = ((k / 4 % 2 : Nat) : Int) ∧ S.2 3 b = ((k / 4 % 2 : Nat) : Int) ∧
    (if ((k / 4 % 2 : Nat) : Int) = 1 then S.2 2 a = hh n (S.2 0) (S.2 1) (S.2 0 a) (S.2 1 a) - 1 else S.2 2 a = 0) ∧ (if ((k / 4 % 2 : Nat) : Int) = 1 then S.2 2 b = hh n (S.2 0) (S.2 1) (S.2 0 b) (S.2 1 b) - 1 else S.2 2 b = 0)) := by
  unfold MC kov kln
  have ho : k / 4 % 2 = 0 ∨ k / 4 % 2 = 1 := by omega
  have e : 2 * (((k / 8 : Nat) : Int) + 1) - 1 = 2 * ((k / 8 : Nat) : Int) + 1 := by omega
  rw [e]
  rcases ho with ho | ho <;> rw [ho] <;> simp
theorem meet_eq {n : Nat} {S : St} {σ : Sg} (w : WF n S) (h : HP n S σ) {a b : Nat} (ha : a < n) (hb : b < n) : f_X3_meetingFold σ (J a) (J b) = some (J (enc1 (mt n a b S))) := by
  obtain ⟨b1, b2, b3, b4, b5, b6, b7⟩ := w.bd ha
  obtain ⟨-, c2, c3, c4, c5, -, -⟩ := w.bd hb
  obtain ⟨a1, a2, a3, a4⟩ := h.2.2.2 a ha
  obtain ⟨d1, d2, d3, d4⟩ := h.2.2.2 b hb
  have fa := w.fr ha
  have fb := w.fr hb
  have oa := outer_eq w h ha fa
  have ob := outer_eq w h hb fa
  unfold mt
  -- what a fold of PART 0 must be
  have key : ¬ (S.2 0 a = S.2 0 b ∧ S.2 1 a = S.2 1 b) → ∀ k ∈ p12, ((decide (vl S k) && T1 a b (stp n S k).2) = true ↔ vl S k ∧ MC n S a b k) := by
    intro hap k hk
    have hp : kpt k = false := by unfold kpt; simp [(p12_props k hk).2.1]
    rw [Bool.and_eq_true, decide_eq_true_eq]
    unfold T1
    rw [decide_eq_true_eq, tcP_meet w ha hb hap hp]
  by_cases q1 : S.2 0 a = S.2 0 b
  · by_cases q2 : S.2 1 a = S.2 1 b
    · rw [if_pos ⟨q1, q2⟩]
      simp (disch := omega) only [f_X3_meetingFold, L0, L1, L2, L3, L4, L5, L6, L7, L8, L9, L10, L11, L12, L16, L21, L22, L24, L28, L32, L35, L40, L48, L57, L59, L64, L97, L100, L122, L200, L1000000, chk_J, jlt, jle, jeq, jcl, J_add, J_sub, J_mul, J_neg, Int.toNat_natCast, Option.bind_some, sgs, sgn, if_true, if_false, Int.toNat_zero, Int.toNat_one, a1, d1]
      rw [if_pos q1]
      simp (disch := omega) only [j_X3_meetingFold_1, L0, L1, L2, L3, L4, L5, L6, L7, L8, L9, L10, L11, L12, L16, L21, L22, L24, L28, L32, L35, L40, L48, L57, L59, L64, L97, L100, L122, L200, L1000000, chk_J, jlt, jle, jeq, jcl, J_add, J_sub, J_mul, J_neg, Int.toNat_natCast, Option.bind_some, sgs, sgn, if_true, if_false, Int.toNat_zero, Int.toNat_one, a2, d2]
      rw [if_pos q2]
      simp (disch := omega) only [j_X3_meetingFold_2, L0, L1, L2, L3, L4, L5, L6, L7, L8, L9, L10, L11, L12, L16, L21, L22, L24, L28, L32, L35, L40, L48, L57, L59, L64, L97, L100, L122, L200, L1000000, chk_J, jlt, jle, jeq, jcl, J_add, J_sub, J_mul, J_neg, Int.toNat_natCast, Option.bind_some, sgs, sgn, if_true, if_false, Int.toNat_zero, Int.toNat_one]
      rfl
    · rw [if_neg (fun g => q2 g.2)]
      have key := key (fun g => q2 g.2)
      simp (disch := omega) only [f_X3_meetingFold, L0, L1, L2, L3, L4, L5, L6, L7, L8, L9, L10, L11, L12, L16, L21, L22, L24, L28, L32, L35, L40, L48, L57, L59, L64, L97, L100, L122, L200, L1000000, chk_J, jlt, jle, jeq, jcl, J_add, J_sub, J_mul, J_neg, Int.toNat_natCast, Option.bind_some, sgs, sgn, if_true, if_false, Int.toNat_zero, Int.toNat_one, a1, d1]
      rw [if_pos q1]
      simp (disch := omega) only [j_X3_meetingFold_1, L0, L1, L2, L3, L4, L5, L6, L7, L8, L9, L10, L11, L12, L16, L21, L22, L24, L28, L32, L35, L40, L48, L57, L59, L64, L97, L100, L122, L200, L1000000, chk_J, jlt, jle, jeq, jcl, J_add, J_sub, J_mul, J_neg, Int.toNat_natCast, Option.bind_some, sgs, sgn, if_true, if_false, Int.toNat_zero, Int.toNat_one, a2, d2]
      rw [if_neg q2]
      simp (disch := omega) only [j_X3_meetingFold_2, L0, L1, L2, L3, L4, L5, L6, L7, L8, L9, L10, L11, L12, L16, L21, L22, L24, L28, L32, L35, L40, L48, L57, L59, L64, L97, L100, L122, L200, L1000000, chk_J, jlt, jle, jeq, jcl, J_add, J_sub, J_mul, J_neg, Int.toNat_natCast, Option.bind_some, sgs, sgn, if_true, if_false, Int.toNat_zero, Int.toNat_one, a4, d4]
      rw [if_neg (by omega)]
      by_cases q3 : S.2 3 a = S.2 3 b
      · rw [if_pos q3]
        simp (disch := omega) only [j_X3_meetingFold_3, j_X3_meetingFold_4, L0, L1, L2, L3, L4, L5, L6, L7, L8, L9, L10, L11, L12, L16, L21, L22, L24, L28, L32, L35, L40, L48, L57, L59, L64, L97, L100, L122, L200, L1000000, chk_J, jlt, jle, jeq, jcl, J_add, J_sub, J_mul, J_neg, Int.toNat_natCast, Option.bind_some, sgs, sgn, if_true, if_false, Int.toNat_zero, Int.toNat_one, J_divI, a1, a2, d1, d2, a4, oa, ob]
        by_cases q4 : S.2 1 a + S.2 1 b - (S.2 1 a + S.2 1 b) / 2 * 2 = 0
        · rw [if_pos q4, find_no]
          · rfl
          · intro k hk g
            rw [key k hk, MC_iff] at g
            obtain ⟨-, g1, g2, -⟩ := g
            rcases Nat.mod_two_eq_zero_or_one k with e | e
            · rw [e] at g1; exact q2 g1
            · rw [e] at g2; omega
        · rw [if_neg q4]
          by_cases q5 : (if S.2 3 a = 1 then S.2 2 a = hh n (S.2 0) (S.2 1) (S.2 0 a) (S.2 1 a) - 1 else S.2 2 a = 0) ∧ (if S.2 3 a = 1 then S.2 2 b = hh n (S.2 0) (S.2 1) (S.2 0 b) (S.2 1 b) - 1 else S.2 2 b = 0)
          · rw [if_pos q5.1, if_pos q5.2]
            rw [if_neg (by omega), if_neg (by omega)]
            have hz : ((S.2 1 a + S.2 1 b) / 2).toNat < 3 := by omega
            have hy : (S.2 3 a).toNat < 2 := by omega
            have ek : ∀ k, k = 1 + 4 * (S.2 3 a).toNat + 8 * ((S.2 1 a + S.2 1 b) / 2).toNat → k % 2 = 1 ∧ ((k / 4 % 2 : Nat) : Int) = S.2 3 a ∧ ((k / 8 : Nat) : Int) = (S.2 1 a + S.2 1 b) / 2 := by
              intro k hk
              generalize hA : (S.2 3 a).toNat = A at *
              generalize hB : ((S.2 1 a + S.2 1 b) / 2).toNat = B at *
              omega
            rw [find_one (k0 := 1 + 4 * (S.2 3 a).toNat + 8 * ((S.2 1 a + S.2 1 b) / 2).toNat) (mk_p12 (by omega) hy hz)]
            · unfold enc1
              refine congrArg some (congrArg J ?_)
              show _ = ((1 + 4 * (S.2 3 a).toNat + 8 * ((S.2 1 a + S.2 1 b) / 2).toNat : Nat) : Int)
              omega
            · rw [key _ (mk_p12 (by omega) hy hz), MC_iff]
              obtain ⟨e1, e2, e3⟩ := ek _ rfl
              generalize 1 + 4 * (S.2 3 a).toNat + 8 * ((S.2 1 a + S.2 1 b) / 2).toNat = k at *
              refine ⟨?_, ?_, ?_, ?_, ?_, ?_, ?_⟩
              · unfold vl kln; rw [e1, e3]; omega
              · rw [e1]; exact q1
              · rw [e1, e3]; omega
              · rw [e2]
              · rw [e2, q3]
              · rw [e2]; exact q5.1
              · rw [e2]; exact q5.2
            · intro k hk g
              rw [key k hk, MC_iff] at g
              obtain ⟨-, g1, g2, g3, -⟩ := g
              have hp := p12_props k hk
              rcases Nat.mod_two_eq_zero_or_one k with e | e
              · rw [e] at g1; exact absurd g1 q2
              · rw [e] at g2; omega
          · have nk : ∀ k ∈ p12, ¬ (decide (vl S k) && T1 a b (stp n S k).2) = true := by
              intro k hk g
              rw [key k hk, MC_iff] at g
              obtain ⟨-, g1, g2, g3, g4, g5, g6⟩ := g
              rw [← g3] at g5 g6
              exact q5 ⟨g5, g6⟩
            rw [find_no nk]
            by_cases q6 : (if S.2 3 a = 1 then S.2 2 a = hh n (S.2 0) (S.2 1) (S.2 0 a) (S.2 1 a) - 1 else S.2 2 a = 0)
            · rw [if_pos q6, if_neg (fun g => q5 ⟨q6, g⟩)]
              simp (disch := omega) only [L0, L1, L2, L3, L4, L5, L6, L7, L8, L9, L10, L11, L12, L16, L21, L22, L24, L28, L32, L35, L40, L48, L57, L59, L64, L97, L100, L122, L200, L1000000, chk_J, jlt, jle, jeq, jcl, J_add, J_sub, J_mul, J_neg, Int.toNat_natCast, Option.bind_some, sgs, sgn, if_true, if_false, Int.toNat_zero, Int.toNat_one]
              rw [if_neg (by omega)]
              rfl
            · rw [if_neg q6]
              simp (disch := omega) only [L0, L1, L2, L3, L4, L5, L6, L7, L8, L9, L10, L11, L12, L16, L21, L22, L24, L28, L32, L35, L40, L48, L57, L59, L64, L97, L100, L122, L200, L1000000, chk_J, jlt, jle, jeq, jcl, J_add, J_sub, J_mul, J_neg, Int.toNat_natCast, Option.bind_some, sgs, sgn, if_true, if_false, Int.toNat_zero, Int.toNat_one]
              rfl
      · rw [if_neg q3, find_no]
        · rfl
        · intro k hk g
          rw [key k hk, MC_iff] at g
          obtain ⟨-, g1, g2, g3, g4, -⟩ := g
          exact q3 (g3.trans g4.symm)
  · by_cases q2 : S.2 1 a = S.2 1 b
    · rw [if_neg (fun g => q1 g.1)]
      have key := key (fun g => q1 g.1)
      simp (disch := omega) only [f_X3_meetingFold, L0, L1, L2, L3, L4, L5, L6, L7, L8, L9, L10, L11, L12, L16, L21, L22, L24, L28, L32, L35, L40, L48, L57, L59, L64, L97, L100, L122, L200, L1000000, chk_J, jlt, jle, jeq, jcl, J_add, J_sub, J_mul, J_neg, Int.toNat_natCast, Option.bind_some, sgs, sgn, if_true, if_false, Int.toNat_zero, Int.toNat_one, a1, d1]
      rw [if_neg q1]
      simp (disch := omega) only [j_X3_meetingFold_1, L0, L1, L2, L3, L4, L5, L6, L7, L8, L9, L10, L11, L12, L16, L21, L22, L24, L28, L32, L35, L40, L48, L57, L59, L64, L97, L100, L122, L200, L1000000, chk_J, jlt, jle, jeq, jcl, J_add, J_sub, J_mul, J_neg, Int.toNat_natCast, Option.bind_some, sgs, sgn, if_true, if_false, Int.toNat_zero, Int.toNat_one, a2, d2]
      rw [if_pos q2]
      simp (disch := omega) only [j_X3_meetingFold_2, L0, L1, L2, L3, L4, L5, L6, L7, L8, L9, L10, L11, L12, L16, L21, L22, L24, L28, L32, L35, L40, L48, L57, L59, L64, L97, L100, L122, L200, L1000000, chk_J, jlt, jle, jeq, jcl, J_add, J_sub, J_mul, J_neg, Int.toNat_natCast, Option.bind_some, sgs, sgn, if_true, if_false, Int.toNat_zero, Int.toNat_one, a4, d4]
      rw [if_neg (by omega)]
      by_cases q3 : S.2 3 a = S.2 3 b
      · rw [if_pos q3, if_neg (by omega)]
        simp (disch := omega) only [j_X3_meetingFold_3, j_X3_meetingFold_4, L0, L1, L2, L3, L4, L5, L6, L7, L8, L9, L10, L11, L12, L16, L21, L22, L24, L28, L32, L35, L40, L48, L57, L59, L64, L97, L100, L122, L200, L1000000, chk_J, jlt, jle, jeq, jcl, J_add, J_sub, J_mul, J_neg, Int.toNat_natCast, Option.bind_some, sgs, sgn, if_true, if_false, Int.toNat_zero, Int.toNat_one, J_divI, a1, a2, d1, d2, a4, oa, ob]
        rw [if_neg (by omega)]
        by_cases q4 : S.2 0 a + S.2 0 b - (S.2 0 a + S.2 0 b) / 2 * 2 = 0
        · rw [if_pos q4, find_no]
          · rfl
          · intro k hk g
            rw [key k hk, MC_iff] at g
            obtain ⟨-, g1, g2, -⟩ := g
            rcases Nat.mod_two_eq_zero_or_one k with e | e
            · rw [e] at g2; omega
            · rw [e] at g1; exact q1 g1
        · rw [if_neg q4]
          by_cases q5 : (if S.2 3 a = 1 then S.2 2 a = hh n (S.2 0) (S.2 1) (S.2 0 a) (S.2 1 a) - 1 else S.2 2 a = 0) ∧ (if S.2 3 a = 1 then S.2 2 b = hh n (S.2 0) (S.2 1) (S.2 0 b) (S.2 1 b) - 1 else S.2 2 b = 0)
          · rw [if_pos q5.1, if_pos q5.2]
            rw [if_neg (by omega), if_neg (by omega)]
            have hz : ((S.2 0 a + S.2 0 b) / 2).toNat < 3 := by omega
            have hy : (S.2 3 a).toNat < 2 := by omega
            have ek : ∀ k, k = 0 + 4 * (S.2 3 a).toNat + 8 * ((S.2 0 a + S.2 0 b) / 2).toNat → k % 2 = 0 ∧ ((k / 4 % 2 : Nat) : Int) = S.2 3 a ∧ ((k / 8 : Nat) : Int) = (S.2 0 a + S.2 0 b) / 2 := by
              intro k hk
              generalize hA : (S.2 3 a).toNat = A at *
              generalize hB : ((S.2 0 a + S.2 0 b) / 2).toNat = B at *
              omega
            rw [find_one (k0 := 0 + 4 * (S.2 3 a).toNat + 8 * ((S.2 0 a + S.2 0 b) / 2).toNat) (mk_p12 (by omega) hy hz)]
            · unfold enc1
              refine congrArg some (congrArg J ?_)
              show _ = ((0 + 4 * (S.2 3 a).toNat + 8 * ((S.2 0 a + S.2 0 b) / 2).toNat : Nat) : Int)
              omega
            · rw [key _ (mk_p12 (by omega) hy hz), MC_iff]
              obtain ⟨e1, e2, e3⟩ := ek _ rfl
              generalize 0 + 4 * (S.2 3 a).toNat + 8 * ((S.2 0 a + S.2 0 b) / 2).toNat = k at *
              refine ⟨?_, ?_, ?_, ?_, ?_, ?_, ?_⟩
              · unfold vl kln; rw [e1, e3]; omega
              · rw [e1]; exact q2
              · rw [e1, e3]; omega
              · rw [e2]
              · rw [e2, q3]
              · rw [e2]; exact q5.1
              · rw [e2]; exact q5.2
            · intro k hk g
              rw [key k hk, MC_iff] at g
              obtain ⟨-, g1, g2, g3, -⟩ := g
              have hp := p12_props k hk
              rcases Nat.mod_two_eq_zero_or_one k with e | e
              · rw [e] at g2; omega
              · rw [e] at g1; exact absurd g1 q1
          · have nk : ∀ k ∈ p12, ¬ (decide (vl S k) && T1 a b (stp n S k).2) = true := by
              intro k hk g
              rw [key k hk, MC_iff] at g
              obtain ⟨-, g1, g2, g3, g4, g5, g6⟩ := g
              rw [← g3] at g5 g6
              exact q5 ⟨g5, g6⟩
            rw [find_no nk]
            by_cases q6 : (if S.2 3 a = 1 then S.2 2 a = hh n (S.2 0) (S.2 1) (S.2 0 a) (S.2 1 a) - 1 else S.2 2 a = 0)
            · rw [if_pos q6, if_neg (fun g => q5 ⟨q6, g⟩)]
              simp (disch := omega) only [L0, L1, L2, L3, L4, L5, L6, L7, L8, L9, L10, L11, L12, L16, L21, L22, L24, L28, L32, L35, L40, L48, L57, L59, L64, L97, L100, L122, L200, L1000000, chk_J, jlt, jle, jeq, jcl, J_add, J_sub, J_mul, J_neg, Int.toNat_natCast, Option.bind_some, sgs, sgn, if_true, if_false, Int.toNat_zero, Int.toNat_one]
              rw [if_neg (by omega)]
              rfl
            · rw [if_neg q6]
              simp (disch := omega) only [L0, L1, L2, L3, L4, L5, L6, L7, L8, L9, L10, L11, L12, L16, L21, L22, L24, L28, L32, L35, L40, L48, L57, L59, L64, L97, L100, L122, L200, L1000000, chk_J, jlt, jle, jeq, jcl, J_add, J_sub, J_mul, J_neg, Int.toNat_natCast, Option.bind_some, sgs, sgn, if_true, if_false, Int.toNat_zero, Int.toNat_one]
              rfl
      · rw [if_neg q3, find_no]
        · rfl
        · intro k hk g
          rw [key k hk, MC_iff] at g
          obtain ⟨-, g1, g2, g3, g4, -⟩ := g
          exact q3 (g3.trans g4.symm)
    · rw [if_neg (fun g => q1 g.1)]
      have key := key (fun g => q1 g.1)
      simp (disch := omega) only [f_X3_meetingFold, L0, L1, L2, L3, L4, L5, L6, L7, L8, L9, L10, L11, L12, L16, L21, L22, L24, L28, L32, L35, L40, L48, L57, L59, L64, L97, L100, L122, L200, L1000000, chk_J, jlt, jle, jeq, jcl, J_add, J_sub, J_mul, J_neg, Int.toNat_natCast, Option.bind_some, sgs, sgn, if_true, if_false, Int.toNat_zero, Int.toNat_one, a1, d1]
      rw [if_neg q1]
      simp (disch := omega) only [j_X3_meetingFold_1, L0, L1, L2, L3, L4, L5, L6, L7, L8, L9, L10, L11, L12, L16, L21, L22, L24, L28, L32, L35, L40, L48, L57, L59, L64, L97, L100, L122, L200, L1000000, chk_J, jlt, jle, jeq, jcl, J_add, J_sub, J_mul, J_neg, Int.toNat_natCast, Option.bind_some, sgs, sgn, if_true, if_false, Int.toNat_zero, Int.toNat_one, a2, d2]
      rw [if_neg q2]
      simp (disch := omega) only [j_X3_meetingFold_2, L0, L1, L2, L3, L4, L5, L6, L7, L8, L9, L10, L11, L12, L16, L21, L22, L24, L28, L32, L35, L40, L48, L57, L59, L64, L97, L100, L122, L200, L1000000, chk_J, jlt, jle, jeq, jcl, J_add, J_sub, J_mul, J_neg, Int.toNat_natCast, Option.bind_some, sgs, sgn, if_true, if_false, Int.toNat_zero, Int.toNat_one]
      rw [find_no]
      · rfl
      · intro k hk g
        rw [key k hk, MC_iff] at g
        obtain ⟨-, g1, -⟩ := g
        rcases Nat.mod_two_eq_zero_or_one k with e | e
        · rw [e] at g1; exact q2 g1
        · rw [e] at g1; exact q1 g1
/-! pairs face to face -/
def tt (P : Pk) (a b : Nat) : Bool := decide (tcP P a b = 1)
theorem tt_comm (P : Pk) (a b : Nat) : tt P a b = tt P b a := by unfold tt tcP; rw [tc_comm]
def sumI (f : Nat → Int) : Nat → Int
  | 0 => 0
  | k + 1 => sumI f k + f k
theorem sumI_succ (f : Nat → Int) (k : Nat) : sumI f (k + 1) = sumI f k + f k := rfl
theorem sumI_cong {f g : Nat → Int} : ∀ {n : Nat}, (∀ k, k < n → f k = g k) → sumI f n = sumI g n
  | 0, _ => rfl
  | n + 1, h => by rw [sumI_succ, sumI_succ, sumI_cong (fun k hk => h k (by omega)), h n (by omega)]
theorem sumI_add (f g : Nat → Int) : ∀ n : Nat, sumI (fun k => f k + g k) n = sumI f n + sumI g n
  | 0 => rfl
  | n + 1 => by rw [sumI_succ, sumI_succ, sumI_succ, sumI_add f g n]; omega
theorem sumI_ind (p : Nat → Bool) : ∀ n : Nat, sumI (fun k => if p k then 1 else 0) n = cnt p n
  | 0 => rfl
  | n + 1 => by rw [sumI_succ, cnt_succ, sumI_ind p n]
/-- told by the lower one, told by the higher one -/
theorem pairs_eq (P : Pk) : ∀ n : Nat, sumI (fun a => cnt (fun b => decide (a < b) && tt P a b) n) n = sumI (fun a => cnt (fun b => tt P a b) a) n
  | 0 => rfl
  | n + 1 => by
    rw [sumI_succ, sumI_succ, ← pairs_eq P n]
    have e1 : sumI (fun a => cnt (fun b => decide (a < b) && tt P a b) (n + 1)) n = sumI (fun a => cnt (fun b => decide (a < b) && tt P a b) n + (if tt P a n then 1 else 0)) n := by
      refine sumI_cong (fun k hk => ?_)
      rw [cnt_succ]
      simp [hk]
    have e2 : cnt (fun b => decide (n < b) && tt P n b) (n + 1) = 0 := cnt_zero (fun c hc => by simp; omega)
    rw [e1, e2, sumI_add, sumI_ind (fun a => tt P a n)]
    have e3 : cnt (fun a => tt P a n) n = cnt (fun b => tt P n b) n := cnt_cong (fun k _ => tt_comm P k n)
    rw [e3]; omega
theorem frontPairs_eq {n : Nat} {S : St} {σ : Sg} (w : WF n S) (h : HP n S σ) : f_X3_countFrontPairs σ = some (J (sumI (fun a => cnt (fun b => decide (a < b) && tt S.2 a b) n) n)) := by
  rw [← Ok_eqs]
  unfold f_X3_countFrontPairs
  rw [← J0]
  have hn := w.1
  refine Ok_for2r n (fun k x => x = J (sumI (fun a => cnt (fun b => decide (a < b) && tt S.2 a b) n) k)) (fun k x κ hk hi hκ => ?_) (fun x κ hi => ?_) 1000 0 _ (by omega) (by omega) rfl
  · subst hi
    simp (disch := omega) only [s_X3_countFrontPairs_4, L0, L1, L2, L3, L4, L5, L6, L7, L8, L9, L10, L11, L12, L16, L21, L22, L24, L28, L32, L35, L40, L48, L57, L59, L64, L97, L100, L122, L200, L1000000, chk_J, jlt, jle, jeq, jcl, J_add, J_sub, J_mul, J_neg, Int.toNat_natCast, Option.bind_some, sgs, sgn, if_true, if_false, Int.toNat_zero, Int.toNat_one, h.1]
    rw [if_neg (by omega), show ((k : Int) + 1) = ((k + 1 : Nat) : Int) from rfl]
    refine Ok_for2r n (fun j x => x = J (sumI (fun a => cnt (fun b => decide (a < b) && tt S.2 a b) n) k + cnt (fun b => decide (k < b) && tt S.2 k b) j) ∧ k < j) (fun j x κ' hj hi hκ' => ?_) (fun x κ' hi => ?_) 1000 (k + 1) _ (by omega) (by omega) ⟨?_, by omega⟩
    · obtain ⟨hi, hkj⟩ := hi
      subst hi
      have ht := tcP_range S.2 k j
      simp (disch := omega) only [s_X3_countFrontPairs_16, L0, L1, L2, L3, L4, L5, L6, L7, L8, L9, L10, L11, L12, L16, L21, L22, L24, L28, L32, L35, L40, L48, L57, L59, L64, L97, L100, L122, L200, L1000000, chk_J, jlt, jle, jeq, jcl, J_add, J_sub, J_mul, J_neg, Int.toNat_natCast, Option.bind_some, sgs, sgn, if_true, if_false, Int.toNat_zero, Int.toNat_one, h.1, touching_eq w h hk hj]
      rw [if_neg (by omega)]
      by_cases q : tcP S.2 k j = 1
      · rw [if_pos q]
        refine hκ' _ ⟨?_, by omega⟩
        rw [cnt_succ]; simp [tt, q, hkj]
        exact congrArg J (by omega)
      · rw [if_neg q]
        refine hκ' _ ⟨?_, by omega⟩
        rw [cnt_succ]; simp [tt, q]
    · obtain ⟨hi, hkj⟩ := hi
      subst hi
      simp (disch := omega) only [s_X3_countFrontPairs_16, L0, L1, L2, L3, L4, L5, L6, L7, L8, L9, L10, L11, L12, L16, L21, L22, L24, L28, L32, L35, L40, L48, L57, L59, L64, L97, L100, L122, L200, L1000000, chk_J, jlt, jle, jeq, jcl, J_add, J_sub, J_mul, J_neg, Int.toNat_natCast, Option.bind_some, sgs, sgn, if_true, if_false, Int.toNat_zero, Int.toNat_one, h.1]
      rw [if_pos (by omega)]
      exact hκ _ (by rw [sumI_succ])
    · rw [cnt_zero (n := k + 1) (fun c hc => by simp; omega)]
      exact congrArg J (by omega)
  · simp (disch := omega) only [s_X3_countFrontPairs_4, L0, L1, L2, L3, L4, L5, L6, L7, L8, L9, L10, L11, L12, L16, L21, L22, L24, L28, L32, L35, L40, L48, L57, L59, L64, L97, L100, L122, L200, L1000000, chk_J, jlt, jle, jeq, jcl, J_add, J_sub, J_mul, J_neg, Int.toNat_natCast, Option.bind_some, sgs, sgn, if_true, if_false, Int.toNat_zero, Int.toNat_one, h.1]
    rw [if_pos (by omega), Ok_some, hi]
