/-! ===== the class's fold: the loop ===== -/
def BI (n : Nat) (S S' : St) (k : Nat) (g : Sg) : Prop := g 0 0 = J n ∧ g 0 1 = J (S.1 0) ∧ g 0 2 = J (S.1 1) ∧ HT n (S.2 0) (S.2 1) g ∧
  ∀ c, c < n → (c < k → g 1 c = J (S'.2 0 c) ∧ g 2 c = J (S'.2 1 c) ∧ g 3 c = J (S'.2 2 c) ∧ g 4 c = J (S'.2 3 c)) ∧ (k ≤ c → g 1 c = J (S.2 0 c) ∧ g 2 c = J (S.2 1 c) ∧ g 3 c = J (S.2 2 c) ∧ g 4 c = J (S.2 3 c))
theorem BI.nx {n : Nat} {S S' : St} {k : Nat} {g g' : Sg} (h : BI n S S' k g) (h0 : g' 0 = g 0) (h5 : g' 5 = g 5) (hq : ∀ q i, 1 ≤ q → q ≤ 4 → i ≠ k → g' q i = g q i) (h1 : g' 1 k = J (S'.2 0 k)) (h2 : g' 2 k = J (S'.2 1 k)) (h3 : g' 3 k = J (S'.2 2 k)) (h4 : g' 4 k = J (S'.2 3 k)) : BI n S S' (k + 1) g' := by
  obtain ⟨a1, a2, a3, a4, a5⟩ := h
  unfold BI HT at *
  rw [h0, h5]
  refine ⟨a1, a2, a3, a4, fun c hc => ⟨fun hlt => ?_, fun hle => ?_⟩⟩
  · by_cases e : c = k
    · subst e; exact ⟨h1, h2, h3, h4⟩
    · rw [hq 1 c (by omega) (by omega) e, hq 2 c (by omega) (by omega) e, hq 3 c (by omega) (by omega) e, hq 4 c (by omega) (by omega) e]
      exact (a5 c hc).1 (by omega)
  · have e : c ≠ k := by omega
    rw [hq 1 c (by omega) (by omega) e, hq 2 c (by omega) (by omega) e, hq 3 c (by omega) (by omega) e, hq 4 c (by omega) (by omega) e]
    exact (a5 c hc).2 (by omega)
theorem bend0_ok {n : Nat} {S : St} {σ : Sg} (w : WF n S) {k : Nat} (hk : k < 24) (e : k % 2 = 0) (h : HP n S σ) (ht : HT n (S.2 0) (S.2 1) σ) {ov : Int} (hov : ov = ((k / 4 % 2 : Nat) : Int)) :
    Ok (lc2 (s_X3_bend_56q (J k) (J 0) (J (kln k)) (J ov) (J (fsh (S.1 0) (kln k) (kpt k)))) 1000 0 σ) (fun z => HP n (stp n S k) z) := by
  have hl := kln_bd hk
  have w2 := w.2.1
  have w3 := w.2.2.1
  have hn := w.1
  have hsh : -10 ≤ fsh (S.1 0) (kln k) (kpt k) ∧ fsh (S.1 0) (kln k) (kpt k) ≤ 10 := by
    unfold fsh
    cases kpt k <;> simp <;> (repeat' split) <;> omega
  have rA : ∀ c, c < n → 0 ≤ S.2 0 c ∧ S.2 0 c < 4 := fun c hc => by have := w.bd hc; omega
  have rB : ∀ c, c < n → 0 ≤ S.2 1 c ∧ S.2 1 c < 4 := fun c hc => by have := w.bd hc; omega
  rw [← J0]
  refine Ok_for2 n (fun c g => BI n S (stp n S k) c g) (fun c g κ hc hi hκ => ?_) (fun g κ hi => ?_) 1000 0 _ (by omega) (by omega) ⟨h.1, h.2.1, h.2.2.1, ht, fun c hc => ⟨fun q => by omega, fun _ => h.2.2.2 c hc⟩⟩
  · obtain ⟨b1, b2, b3, b4, b5, b6, b7⟩ := w.bd hc
    have hi' := hi
    obtain ⟨a1, a2, a3, a4, a5⟩ := hi'
    obtain ⟨v1, v2, v3, v4⟩ := (a5 c hc).2 (Nat.le_refl c)
    have hm := heightAt_eq a4 rA rB (x := 2 * kln k - 1 - S.2 0 c) (y := S.2 1 c) (by omega) (by omega)
    have ho := heightAt_eq a4 rA rB (x := S.2 0 c) (y := S.2 1 c) (by omega) (by omega)
    have nm := hh_nonneg n (S.2 0) (S.2 1) (2 * kln k - 1 - S.2 0 c) (S.2 1 c)
    have lm := hh_le n (S.2 0) (S.2 1) (2 * kln k - 1 - S.2 0 c) (S.2 1 c)
    have no := hh_nonneg n (S.2 0) (S.2 1) (S.2 0 c) (S.2 1 c)
    have lo := hh_le n (S.2 0) (S.2 1) (S.2 0 c) (S.2 1 c)
    have fgo' := fv_go (n := n) (k := k) (ea := S.1 0) (ln := kln k) (A := S.2 0) (B := S.2 1) (L := S.2 2) (F := S.2 3) (c := c)
    have fst' := fv_st (n := n) (k := k) (ea := S.1 0) (ln := kln k) (A := S.2 0) (B := S.2 1) (L := S.2 2) (F := S.2 3) (c := c)
    have s0 : (stp n S k).2 0 c = fA (S.1 0) (S.2 0) (kln k) (kpt k) c := by rw [stp0 e]; rfl
    have s1 : (stp n S k).2 1 c = S.2 1 c := by rw [stp0 e]; rfl
    have s2 : (stp n S k).2 2 c = fL n (S.2 0) (S.2 1) (S.2 2) (kln k) (kpt k) (kov k) c := by rw [stp0 e]; rfl
    have s3 : (stp n S k).2 3 c = fF (S.2 0) (S.2 3) (kln k) (kpt k) c := by rw [stp0 e]; rfl
    have fin : ∀ g' : Sg, g' 0 = g 0 → g' 5 = g 5 → (∀ q i, 1 ≤ q → q ≤ 4 → i ≠ c → g' q i = g q i) → g' 1 c = J ((stp n S k).2 0 c) → g' 2 c = J ((stp n S k).2 1 c) → g' 3 c = J ((stp n S k).2 2 c) → g' 4 c = J ((stp n S k).2 3 c) → Ok (κ (J ((c : Int) + 1)) g') (fun z => HP n (stp n S k) z) :=
      fun g' p0 p5 pq q0 q1 q2 q3 => hκ g' (hi.nx p0 p5 pq q0 q1 q2 q3)
    rw [s0, s1, s2, s3] at fin
    simp (disch := omega) only [s_X3_bend_56q, j_X3_bend_2, j_X3_bend_8, j_X3_bend_9, j_X3_bend_10, j_X3_bend_11, j_X3_bend_12, f_X3_partOf, L0, L1, L2, L3, L4, L5, L6, L7, L8, L9, L10, L11, L12, L16, L21, L22, L24, L28, L32, L35, L40, L48, L57, L59, L64, L97, L100, L122, L200, L1000000, chk_J, jlt, jle, jeq, jcl, J_add, J_sub, J_mul, J_neg, Int.toNat_natCast, Option.bind_some, sgs, sgn, if_true, if_false, Int.toNat_zero, Int.toNat_one, cd_pt hk, a1, v1, v2, v3, v4, hm, ho]
    rw [if_neg (by omega)]
    clear hm ho hκ hi a5 a4
    generalize hh n (S.2 0) (S.2 1) (2 * kln k - 1 - S.2 0 c) (S.2 1 c) = H1 at *
    generalize hh n (S.2 0) (S.2 1) (S.2 0 c) (S.2 1 c) = H2 at *
    generalize fL n (S.2 0) (S.2 1) (S.2 2) (kln k) (kpt k) (kov k) c = M2 at *
    generalize fA (S.1 0) (S.2 0) (kln k) (kpt k) c = M0 at *
    generalize fF (S.2 0) (S.2 3) (kln k) (kpt k) c = M3 at *
    (repeat' split)
    all_goals first
      | (exfalso; omega)
      | (refine fin _ ?_ ?_ ?_ ?_ ?_ ?_ ?_
         · funext i; simp (disch := omega) only [sgn]
         · funext i; simp (disch := omega) only [sgn]
         · intro q i g1 g2 g3
           rcases (show q = 1 ∨ q = 2 ∨ q = 3 ∨ q = 4 by omega) with g4 | g4 | g4 | g4 <;> subst g4 <;> simp (disch := omega) only [sgs, sgn, if_neg]
         all_goals (simp (disch := omega) only [sgs, sgn, if_true, v1, v2, v3, v4, J_add, J_sub, J_mul] <;> exact congrArg J (by omega)))
  · obtain ⟨a1, a2, a3, a4, a5⟩ := hi
    simp (disch := omega) only [s_X3_bend_56q, j_X3_bend_2, f_X3_shrink, L0, L1, L2, L3, L4, L5, L6, L7, L8, L9, L10, L11, L12, L16, L21, L22, L24, L28, L32, L35, L40, L48, L57, L59, L64, L97, L100, L122, L200, L1000000, chk_J, jlt, jle, jeq, jcl, J_add, J_sub, J_mul, J_neg, Int.toNat_natCast, Option.bind_some, sgs, sgn, if_true, if_false, Int.toNat_zero, Int.toNat_one, a1, a2, a3, ite_J]
    rw [if_pos (by omega)]
    simp (disch := omega) only [L0, L1, L2, L3, L4, L5, L6, L7, L8, L9, L10, L11, L12, L16, L21, L22, L24, L28, L32, L35, L40, L48, L57, L59, L64, L97, L100, L122, L200, L1000000, chk_J, jlt, jle, jeq, jcl, J_add, J_sub, J_mul, J_neg, Int.toNat_natCast, Option.bind_some, sgs, sgn, if_true, if_false, Int.toNat_zero, Int.toNat_one, Ok_some]
    refine ⟨?_, ?_, ?_, fun c hc => ?_⟩
    · simp (disch := omega) only [sgs, sgn, if_neg, a1]
    · simp (disch := omega) only [sgs, sgn, if_neg, if_true, a2]
      rw [stp0 e]
      exact congrArg J (by show _ = fe _ _; unfold fe; omega)
    · simp (disch := omega) only [sgs, sgn, if_neg, if_true, a3]
      rw [stp0 e]
      rfl
    · simp (disch := omega) only [sgn]
      exact (a5 c hc).1 hc
theorem bend1_ok {n : Nat} {S : St} {σ : Sg} (w : WF n S) {k : Nat} (hk : k < 24) (e : k % 2 = 1) (h : HP n S σ) (ht : HT n (S.2 0) (S.2 1) σ) {ov : Int} (hov : ov = ((k / 4 % 2 : Nat) : Int)) :
    Ok (lc2 (s_X3_bend_56 (J k) (J 1) (J (kln k)) (J ov) (J (fsh (S.1 1) (kln k) (kpt k)))) 1000 0 σ) (fun z => HP n (stp n S k) z) := by
  have hl := kln_bd hk
  have w2 := w.2.1
  have w3 := w.2.2.1
  have hn := w.1
  have hsh : -10 ≤ fsh (S.1 1) (kln k) (kpt k) ∧ fsh (S.1 1) (kln k) (kpt k) ≤ 10 := by
    unfold fsh
    cases kpt k <;> simp <;> (repeat' split) <;> omega
  have rA : ∀ c, c < n → 0 ≤ S.2 0 c ∧ S.2 0 c < 4 := fun c hc => by have := w.bd hc; omega
  have rB : ∀ c, c < n → 0 ≤ S.2 1 c ∧ S.2 1 c < 4 := fun c hc => by have := w.bd hc; omega
  rw [← J0]
  refine Ok_for2 n (fun c g => BI n S (stp n S k) c g) (fun c g κ hc hi hκ => ?_) (fun g κ hi => ?_) 1000 0 _ (by omega) (by omega) ⟨h.1, h.2.1, h.2.2.1, ht, fun c hc => ⟨fun q => by omega, fun _ => h.2.2.2 c hc⟩⟩
  · obtain ⟨b1, b2, b3, b4, b5, b6, b7⟩ := w.bd hc
    have hi' := hi
    obtain ⟨a1, a2, a3, a4, a5⟩ := hi'
    obtain ⟨v1, v2, v3, v4⟩ := (a5 c hc).2 (Nat.le_refl c)
    have hm := heightAt_eq a4 rA rB (x := S.2 0 c) (y := 2 * kln k - 1 - S.2 1 c) (by omega) (by omega)
    rw [← hh_swap] at hm
    have ho := heightAt_eq a4 rA rB (x := S.2 0 c) (y := S.2 1 c) (by omega) (by omega)
    rw [← hh_swap] at ho
    have nm := hh_nonneg n (S.2 1) (S.2 0) (2 * kln k - 1 - S.2 1 c) (S.2 0 c)
    have lm := hh_le n (S.2 1) (S.2 0) (2 * kln k - 1 - S.2 1 c) (S.2 0 c)
    have no := hh_nonneg n (S.2 1) (S.2 0) (S.2 1 c) (S.2 0 c)
    have lo := hh_le n (S.2 1) (S.2 0) (S.2 1 c) (S.2 0 c)
    have fgo' := fv_go (n := n) (k := k) (ea := S.1 1) (ln := kln k) (A := S.2 1) (B := S.2 0) (L := S.2 2) (F := S.2 3) (c := c)
    have fst' := fv_st (n := n) (k := k) (ea := S.1 1) (ln := kln k) (A := S.2 1) (B := S.2 0) (L := S.2 2) (F := S.2 3) (c := c)
    have s1 : (stp n S k).2 1 c = fA (S.1 1) (S.2 1) (kln k) (kpt k) c := by rw [stp1 e]; rfl
    have s0 : (stp n S k).2 0 c = S.2 0 c := by rw [stp1 e]; rfl
    have s2 : (stp n S k).2 2 c = fL n (S.2 1) (S.2 0) (S.2 2) (kln k) (kpt k) (kov k) c := by rw [stp1 e]; rfl
    have s3 : (stp n S k).2 3 c = fF (S.2 1) (S.2 3) (kln k) (kpt k) c := by rw [stp1 e]; rfl
    have fin : ∀ g' : Sg, g' 0 = g 0 → g' 5 = g 5 → (∀ q i, 1 ≤ q → q ≤ 4 → i ≠ c → g' q i = g q i) → g' 1 c = J ((stp n S k).2 0 c) → g' 2 c = J ((stp n S k).2 1 c) → g' 3 c = J ((stp n S k).2 2 c) → g' 4 c = J ((stp n S k).2 3 c) → Ok (κ (J ((c : Int) + 1)) g') (fun z => HP n (stp n S k) z) :=
      fun g' p0 p5 pq q0 q1 q2 q3 => hκ g' (hi.nx p0 p5 pq q0 q1 q2 q3)
    rw [s0, s1, s2, s3] at fin
    simp (disch := omega) only [s_X3_bend_56, j_X3_bend_2, j_X3_bend_3, j_X3_bend_4, j_X3_bend_5, j_X3_bend_6, j_X3_bend_7, f_X3_partOf, L0, L1, L2, L3, L4, L5, L6, L7, L8, L9, L10, L11, L12, L16, L21, L22, L24, L28, L32, L35, L40, L48, L57, L59, L64, L97, L100, L122, L200, L1000000, chk_J, jlt, jle, jeq, jcl, J_add, J_sub, J_mul, J_neg, Int.toNat_natCast, Option.bind_some, sgs, sgn, if_true, if_false, Int.toNat_zero, Int.toNat_one, cd_pt hk, a1, v1, v2, v3, v4, hm, ho]
    rw [if_neg (by omega)]
    clear hm ho hκ hi a5 a4
    generalize hh n (S.2 1) (S.2 0) (2 * kln k - 1 - S.2 1 c) (S.2 0 c) = H1 at *
    generalize hh n (S.2 1) (S.2 0) (S.2 1 c) (S.2 0 c) = H2 at *
    generalize fL n (S.2 1) (S.2 0) (S.2 2) (kln k) (kpt k) (kov k) c = M2 at *
    generalize fA (S.1 1) (S.2 1) (kln k) (kpt k) c = M0 at *
    generalize fF (S.2 1) (S.2 3) (kln k) (kpt k) c = M3 at *
    (repeat' split)
    all_goals first
      | (exfalso; omega)
      | (refine fin _ ?_ ?_ ?_ ?_ ?_ ?_ ?_
         · funext i; simp (disch := omega) only [sgn]
         · funext i; simp (disch := omega) only [sgn]
         · intro q i g1 g2 g3
           rcases (show q = 1 ∨ q = 2 ∨ q = 3 ∨ q = 4 by omega) with g4 | g4 | g4 | g4 <;> subst g4 <;> simp (disch := omega) only [sgs, sgn, if_neg]
         all_goals (simp (disch := omega) only [sgs, sgn, if_true, v1, v2, v3, v4, J_add, J_sub, J_mul] <;> exact congrArg J (by omega)))
  · obtain ⟨a1, a2, a3, a4, a5⟩ := hi
    simp (disch := omega) only [s_X3_bend_56, j_X3_bend_2, f_X3_shrink, L0, L1, L2, L3, L4, L5, L6, L7, L8, L9, L10, L11, L12, L16, L21, L22, L24, L28, L32, L35, L40, L48, L57, L59, L64, L97, L100, L122, L200, L1000000, chk_J, jlt, jle, jeq, jcl, J_add, J_sub, J_mul, J_neg, Int.toNat_natCast, Option.bind_some, sgs, sgn, if_true, if_false, Int.toNat_zero, Int.toNat_one, a1, a2, a3, ite_J]
    rw [if_pos (by omega)]
    rw [if_neg (by omega)]
    simp (disch := omega) only [L0, L1, L2, L3, L4, L5, L6, L7, L8, L9, L10, L11, L12, L16, L21, L22, L24, L28, L32, L35, L40, L48, L57, L59, L64, L97, L100, L122, L200, L1000000, chk_J, jlt, jle, jeq, jcl, J_add, J_sub, J_mul, J_neg, Int.toNat_natCast, Option.bind_some, sgs, sgn, if_true, if_false, Int.toNat_zero, Int.toNat_one, Ok_some]
    refine ⟨?_, ?_, ?_, fun c hc => ?_⟩
    · simp (disch := omega) only [sgs, sgn, if_neg, a1]
    · simp (disch := omega) only [sgs, sgn, if_neg, if_true, a2]
      rw [stp1 e]
      rfl
    · simp (disch := omega) only [sgs, sgn, if_neg, if_true, a3]
      rw [stp1 e]
      exact congrArg J (by show _ = fe _ _; unfold fe; omega)
    · simp (disch := omega) only [sgn]
      exact (a5 c hc).1 hc
theorem bend_ok {n : Nat} {S : St} {σ : Sg} (w : WF n S) {k : Nat} (hk : k < 24) (h : HP n S σ) : Ok (f_X3_bend σ (J k)) (fun z => HP n (stp n S k) z) := by
  unfold f_X3_bend
  rw [Ok_bind]
  refine (heights_ok w h).mono (fun z hz => ?_)
  obtain ⟨h1, h2⟩ := hz
  have ho : k / 4 % 2 = 0 ∨ k / 4 % 2 = 1 := by omega
  have hs := shiftOf_eq w h1.2.1 h1.2.2.1 hk
  rcases Nat.mod_two_eq_zero_or_one k with e | e
  · have hb := fun ov q => bend0_ok w hk e h1 h2 (ov := ov) q
    rw [e] at hs
    rw [L0] at hb
    rcases ho with ho | ho
    · have hb0 := hb 0 (by rw [ho]; rfl)
      simp (disch := omega) only [f_X3_axisOf, f_X3_lineOf, f_X3_overOf, j_X3_bend_1, L0, L1, L2, L3, L4, L5, L6, L7, L8, L9, L10, L11, L12, L16, L21, L22, L24, L28, L32, L35, L40, L48, L57, L59, L64, L97, L100, L122, L200, L1000000, chk_J, jlt, jle, jeq, jcl, J_add, J_sub, J_mul, J_neg, Int.toNat_natCast, Option.bind_some, sgs, sgn, if_true, if_false, Int.toNat_zero, Int.toNat_one, cd_ax hk, cd_ln hk, cd_ov hk, e, ho]
      rw [if_neg (by omega), if_pos (by omega), hs]
      exact hb0
    · have hb0 := hb 1 (by rw [ho]; rfl)
      simp (disch := omega) only [f_X3_axisOf, f_X3_lineOf, f_X3_overOf, j_X3_bend_1, L0, L1, L2, L3, L4, L5, L6, L7, L8, L9, L10, L11, L12, L16, L21, L22, L24, L28, L32, L35, L40, L48, L57, L59, L64, L97, L100, L122, L200, L1000000, chk_J, jlt, jle, jeq, jcl, J_add, J_sub, J_mul, J_neg, Int.toNat_natCast, Option.bind_some, sgs, sgn, if_true, if_false, Int.toNat_zero, Int.toNat_one, cd_ax hk, cd_ln hk, cd_ov hk, e, ho]
      rw [if_pos (by omega), if_pos (by omega), hs]
      exact hb0
  · have hb := fun ov q => bend1_ok w hk e h1 h2 (ov := ov) q
    rw [e] at hs
    rw [L0] at hb
    rcases ho with ho | ho
    · have hb0 := hb 0 (by rw [ho]; rfl)
      simp (disch := omega) only [f_X3_axisOf, f_X3_lineOf, f_X3_overOf, j_X3_bend_1, L0, L1, L2, L3, L4, L5, L6, L7, L8, L9, L10, L11, L12, L16, L21, L22, L24, L28, L32, L35, L40, L48, L57, L59, L64, L97, L100, L122, L200, L1000000, chk_J, jlt, jle, jeq, jcl, J_add, J_sub, J_mul, J_neg, Int.toNat_natCast, Option.bind_some, sgs, sgn, if_true, if_false, Int.toNat_zero, Int.toNat_one, cd_ax hk, cd_ln hk, cd_ov hk, e, ho]
      rw [if_neg (by omega), if_neg (by omega), hs]
      exact hb0
    · have hb0 := hb 1 (by rw [ho]; rfl)
      simp (disch := omega) only [f_X3_axisOf, f_X3_lineOf, f_X3_overOf, j_X3_bend_1, L0, L1, L2, L3, L4, L5, L6, L7, L8, L9, L10, L11, L12, L16, L21, L22, L24, L28, L32, L35, L40, L48, L57, L59, L64, L97, L100, L122, L200, L1000000, chk_J, jlt, jle, jeq, jcl, J_add, J_sub, J_mul, J_neg, Int.toNat_natCast, Option.bind_some, sgs, sgn, if_true, if_false, Int.toNat_zero, Int.toNat_one, cd_ax hk, cd_ln hk, cd_ov hk, e, ho]
      rw [if_pos (by omega), if_neg (by omega), hs]
      exact hb0
