/-! ===== the class's fold ===== -/
def HT (n : Nat) (A B : Nat → Int) (g : Sg) : Prop := ∀ x y : Int, 0 ≤ x → x < 4 → 0 ≤ y → y < 4 → g 5 (4 * y + x).toNat = J (hh n A B x y)
theorem HP.st5 {n : Nat} {S : St} {g : Sg} (h : HP n S g) (j : Nat) (v : Int32) : HP n S (sg_st g 5 j v) := h.cong (fun q hq => by unfold sg_st; rw [if_neg (by omega)])
theorem heights_ok {n : Nat} {S : St} {σ : Sg} (w : WF n S) (h : HP n S σ) : Ok (f_X3_countHeights σ) (fun z => HP n S z ∧ HT n (S.2 0) (S.2 1) z) := by
  unfold f_X3_countHeights
  have hn := w.1
  rw [← J0]
  refine Ok_for2 16 (fun k g => HP n S g ∧ ∀ i, i < k → g 5 i = J 0) (fun k g κ hk hi hκ => ?_) (fun g κ hi => ?_) 1000 0 _ (by omega) (by omega) ⟨h, fun i hi => by omega⟩
  · simp (disch := omega) only [s_X3_countHeights_2, L0, L1, L2, L3, L4, L5, L6, L7, L8, L9, L10, L11, L12, L16, L21, L22, L24, L28, L32, L35, L40, L48, L57, L59, L64, L97, L100, L122, L200, L1000000, chk_J, jlt, jle, jeq, jcl, J_add, J_sub, J_mul, J_neg, Int.toNat_natCast, Option.bind_some, sgs, sgn, Int.toNat_zero, Int.toNat_one]
    rw [if_neg (by omega)]
    refine hκ _ ⟨hi.1.st5 _ _, fun i hi' => ?_⟩
    rw [sgs]
    split
    · rfl
    · exact hi.2 i (by omega)
  · simp (disch := omega) only [s_X3_countHeights_2, L0, L1, L2, L3, L4, L5, L6, L7, L8, L9, L10, L11, L12, L16, L21, L22, L24, L28, L32, L35, L40, L48, L57, L59, L64, L97, L100, L122, L200, L1000000, chk_J, jlt, jle, jeq, jcl, J_add, J_sub, J_mul, J_neg, Int.toNat_natCast, Option.bind_some, sgs, sgn, Int.toNat_zero, Int.toNat_one]
    rw [if_pos (by omega)]
    clear κ
    refine Ok_for2 n (fun k g => HP n S g ∧ ∀ x y : Int, 0 ≤ x → x < 4 → 0 ≤ y → y < 4 → g 5 (4 * y + x).toNat = J (cnt (fun c => decide (S.2 0 c = x) && decide (S.2 1 c = y)) k)) (fun k g κ hk hi hκ => ?_) (fun g κ hi => ?_) 1000 0 _ (by omega) (by omega) ⟨hi.1, fun x y h1 h2 h3 h4 => hi.2 _ (by omega)⟩
    · obtain ⟨b1, b2, b3, b4, b5, b6, b7⟩ := w.bd hk
      obtain ⟨⟨g1, g2, g3, g4⟩, hh0⟩ := hi
      obtain ⟨a1, a2, a3, a4⟩ := g4 k hk
      have hv := hh0 (S.2 0 k) (S.2 1 k) (by omega) (by omega) (by omega) (by omega)
      simp (disch := omega) only [s_X3_countHeights_23, f_X3_isPlace, L0, L1, L2, L3, L4, L5, L6, L7, L8, L9, L10, L11, L12, L16, L21, L22, L24, L28, L32, L35, L40, L48, L57, L59, L64, L97, L100, L122, L200, L1000000, chk_J, jlt, jle, jeq, jcl, J_add, J_sub, J_mul, J_neg, Int.toNat_natCast, Option.bind_some, sgs, sgn, Int.toNat_zero, Int.toNat_one, g1, a1, a2]
      rw [if_neg (by omega), if_neg (by omega), if_neg (by omega), if_neg (by omega), if_neg (by omega)]
      simp (disch := omega) only [L0, L1, L2, L3, L4, L5, L6, L7, L8, L9, L10, L11, L12, L16, L21, L22, L24, L28, L32, L35, L40, L48, L57, L59, L64, L97, L100, L122, L200, L1000000, chk_J, jlt, jle, jeq, jcl, J_add, J_sub, J_mul, J_neg, Int.toNat_natCast, Option.bind_some, sgs, sgn, Int.toNat_zero, Int.toNat_one]
      rw [if_neg (by omega)]
      rw [hv]
      refine hκ _ ⟨HP.st5 ⟨g1, g2, g3, g4⟩ _ _, fun x y h1 h2 h3 h4 => ?_⟩
      rw [sgs, cnt_succ, J_add]
      by_cases q : S.2 0 k = x ∧ S.2 1 k = y
      · rw [if_pos (by omega), q.1, q.2]; simp
      · rw [if_neg (by omega), hh0 x y h1 h2 h3 h4]
        have : (decide (S.2 0 k = x) && decide (S.2 1 k = y)) = false := by
          by_cases q1 : S.2 0 k = x <;> by_cases q2 : S.2 1 k = y <;> simp [q1, q2] <;> exact q ⟨q1, q2⟩
        rw [this]; simp
    · simp (disch := omega) only [s_X3_countHeights_23, L0, L1, L2, L3, L4, L5, L6, L7, L8, L9, L10, L11, L12, L16, L21, L22, L24, L28, L32, L35, L40, L48, L57, L59, L64, L97, L100, L122, L200, L1000000, chk_J, jlt, jle, jeq, jcl, J_add, J_sub, J_mul, J_neg, Int.toNat_natCast, Option.bind_some, sgs, sgn, Int.toNat_zero, Int.toNat_one, hi.1.1]
      rw [if_pos (by omega), Ok_some]
      exact hi
theorem heightAt_eq {n : Nat} {A B : Nat → Int} {g : Sg} (hg : HT n A B g) (hA : ∀ c, c < n → 0 ≤ A c ∧ A c < 4) (hB : ∀ c, c < n → 0 ≤ B c ∧ B c < 4) {x y : Int} (hx : -100 ≤ x ∧ x ≤ 100) (hy : -100 ≤ y ∧ y ≤ 100) : f_X3_heightAt g (J x) (J y) = some (J (hh n A B x y)) := by
  by_cases q : 0 ≤ x ∧ x < 4 ∧ 0 ≤ y ∧ y < 4
  · simp (disch := omega) only [f_X3_heightAt, f_X3_isPlace, L0, L1, L2, L3, L4, L5, L6, L7, L8, L9, L10, L11, L12, L16, L21, L22, L24, L28, L32, L35, L40, L48, L57, L59, L64, L97, L100, L122, L200, L1000000, chk_J, jlt, jle, jeq, jcl, J_add, J_sub, J_mul, J_neg, Int.toNat_natCast, Option.bind_some, sgs, sgn, Int.toNat_zero, Int.toNat_one]
    rw [if_neg (by omega), if_neg (by omega), if_neg (by omega), if_neg (by omega)]
    simp (disch := omega) only [L0, L1, L2, L3, L4, L5, L6, L7, L8, L9, L10, L11, L12, L16, L21, L22, L24, L28, L32, L35, L40, L48, L57, L59, L64, L97, L100, L122, L200, L1000000, chk_J, jlt, jle, jeq, jcl, J_add, J_sub, J_mul, J_neg, Int.toNat_natCast, Option.bind_some, sgs, sgn, Int.toNat_zero, Int.toNat_one]
    rw [if_neg (by omega), hg x y (by omega) (by omega) (by omega) (by omega)]
  · have e : hh n A B x y = 0 := hh_zero (fun c hc ha hb => by have := hA c hc; have := hB c hc; omega)
    rw [e]
    simp (disch := omega) only [f_X3_heightAt, f_X3_isPlace, L0, L1, L2, L3, L4, L5, L6, L7, L8, L9, L10, L11, L12, L16, L21, L22, L24, L28, L32, L35, L40, L48, L57, L59, L64, L97, L100, L122, L200, L1000000, chk_J, jlt, jle, jeq, jcl, J_add, J_sub, J_mul, J_neg, Int.toNat_natCast, Option.bind_some, sgs, sgn, Int.toNat_zero, Int.toNat_one]
    by_cases q1 : x < 0
    · rw [if_pos q1]; simp (disch := omega) only [L0, L1, L2, L3, L4, L5, L6, L7, L8, L9, L10, L11, L12, L16, L21, L22, L24, L28, L32, L35, L40, L48, L57, L59, L64, L97, L100, L122, L200, L1000000, chk_J, jlt, jle, jeq, jcl, J_add, J_sub, J_mul, J_neg, Int.toNat_natCast, Option.bind_some, sgs, sgn, Int.toNat_zero, Int.toNat_one, if_true]
    · rw [if_neg q1]
      by_cases q2 : 4 ≤ x
      · rw [if_pos q2]; simp (disch := omega) only [L0, L1, L2, L3, L4, L5, L6, L7, L8, L9, L10, L11, L12, L16, L21, L22, L24, L28, L32, L35, L40, L48, L57, L59, L64, L97, L100, L122, L200, L1000000, chk_J, jlt, jle, jeq, jcl, J_add, J_sub, J_mul, J_neg, Int.toNat_natCast, Option.bind_some, sgs, sgn, Int.toNat_zero, Int.toNat_one, if_true]
      · rw [if_neg q2]
        by_cases q3 : y < 0
        · rw [if_pos q3]; simp (disch := omega) only [L0, L1, L2, L3, L4, L5, L6, L7, L8, L9, L10, L11, L12, L16, L21, L22, L24, L28, L32, L35, L40, L48, L57, L59, L64, L97, L100, L122, L200, L1000000, chk_J, jlt, jle, jeq, jcl, J_add, J_sub, J_mul, J_neg, Int.toNat_natCast, Option.bind_some, sgs, sgn, Int.toNat_zero, Int.toNat_one, if_true]
        · rw [if_neg q3]
          rw [if_pos (by omega)]
          simp (disch := omega) only [L0, L1, L2, L3, L4, L5, L6, L7, L8, L9, L10, L11, L12, L16, L21, L22, L24, L28, L32, L35, L40, L48, L57, L59, L64, L97, L100, L122, L200, L1000000, chk_J, jlt, jle, jeq, jcl, J_add, J_sub, J_mul, J_neg, Int.toNat_natCast, Option.bind_some, sgs, sgn, Int.toNat_zero, Int.toNat_one, if_true]
/-- a fold's new numbers -/
theorem fv_go {n k : Nat} {ea ln : Int} {A B L F : Nat → Int} {c : Nat} (h : (k / 2 % 2 = 0 ∧ A c < ln) ∨ (k / 2 % 2 = 1 ∧ ln ≤ A c)) : fA ea A ln (kpt k) c = 2 * ln - 1 - A c + fsh ea ln (kpt k) ∧ fF A F ln (kpt k) c = 1 - F c ∧ (k / 4 % 2 = 1 → fL n A B L ln (kpt k) (kov k) c = hh n A B (2 * ln - 1 - A c) (B c) + (hh n A B (A c) (B c) - 1 - L c)) ∧ (k / 4 % 2 = 0 → fL n A B L ln (kpt k) (kov k) c = hh n A B (A c) (B c) - 1 - L c) := by
  have hg : fgo A ln (kpt k) c = true := by
    unfold fgo kpt
    rcases h with h | h <;> simp [h.1, h.2]
  unfold fA fF fL
  rw [hg]
  refine ⟨by simp, by simp, fun q => ?_, fun q => ?_⟩
  · unfold kov; simp [q]
  · unfold kov; simp [q]
theorem fv_st {n k : Nat} {ea ln : Int} {A B L F : Nat → Int} {c : Nat} (h : (k / 2 % 2 = 0 ∧ ln ≤ A c) ∨ (k / 2 % 2 = 1 ∧ A c < ln)) : fA ea A ln (kpt k) c = A c + fsh ea ln (kpt k) ∧ fF A F ln (kpt k) c = F c ∧ (k / 4 % 2 = 1 → fL n A B L ln (kpt k) (kov k) c = L c) ∧ (k / 4 % 2 = 0 → fL n A B L ln (kpt k) (kov k) c = L c + hh n A B (2 * ln - 1 - A c) (B c)) := by
  have hg : fgo A ln (kpt k) c = false := by
    unfold fgo kpt
    rcases h with h | h <;> simp [h.1] <;> omega
  unfold fA fF fL
  rw [hg]
  refine ⟨by simp, by simp, fun q => ?_, fun q => ?_⟩
  · unfold kov; simp [q]
  · unfold kov; simp [q]
theorem shiftOf_eq {n : Nat} {S : St} {g : Sg} (w : WF n S) (h1 : g 0 1 = J (S.1 0)) (h2 : g 0 2 = J (S.1 1)) {k : Nat} (hk : k < 24) : f_X3_shiftOf g (J k) = some (J (fsh (S.1 (k % 2)) (kln k) (kpt k))) := by
  have hl := kln_bd hk
  have w2 := w.2.1
  have w3 := w.2.2.1
  have hp : k / 2 % 2 = 0 ∨ k / 2 % 2 = 1 := by omega
  have hkp : (k / 2 % 2 = 0 → kpt k = false) ∧ (k / 2 % 2 = 1 → kpt k = true) := by unfold kpt; constructor <;> intro q <;> simp [q]
  unfold fsh
  rcases Nat.mod_two_eq_zero_or_one k with e | e <;> rcases hp with hp | hp
  · rw [e, hkp.1 hp]
    simp (disch := omega) only [j_X3_shiftOf_1, f_X3_shiftOf, f_X3_axisOf, f_X3_lineOf, f_X3_partOf, L0, L1, L2, L3, L4, L5, L6, L7, L8, L9, L10, L11, L12, L16, L21, L22, L24, L28, L32, L35, L40, L48, L57, L59, L64, L97, L100, L122, L200, L1000000, chk_J, jlt, jle, jeq, jcl, J_add, J_sub, J_mul, J_neg, Int.toNat_natCast, Option.bind_some, sgs, sgn, Int.toNat_zero, Int.toNat_one, cd_ax hk, cd_ln hk, cd_pt hk, e, hp, h1, h2, ite_J]
    rfl
  · rw [e, hkp.2 hp]
    simp (disch := omega) only [j_X3_shiftOf_1, f_X3_shiftOf, f_X3_axisOf, f_X3_lineOf, f_X3_partOf, L0, L1, L2, L3, L4, L5, L6, L7, L8, L9, L10, L11, L12, L16, L21, L22, L24, L28, L32, L35, L40, L48, L57, L59, L64, L97, L100, L122, L200, L1000000, chk_J, jlt, jle, jeq, jcl, J_add, J_sub, J_mul, J_neg, Int.toNat_natCast, Option.bind_some, sgs, sgn, Int.toNat_zero, Int.toNat_one, cd_ax hk, cd_ln hk, cd_pt hk, e, hp, h1, h2, ite_J]
    rfl
  · rw [e, hkp.1 hp]
    simp (disch := omega) only [j_X3_shiftOf_1, f_X3_shiftOf, f_X3_axisOf, f_X3_lineOf, f_X3_partOf, L0, L1, L2, L3, L4, L5, L6, L7, L8, L9, L10, L11, L12, L16, L21, L22, L24, L28, L32, L35, L40, L48, L57, L59, L64, L97, L100, L122, L200, L1000000, chk_J, jlt, jle, jeq, jcl, J_add, J_sub, J_mul, J_neg, Int.toNat_natCast, Option.bind_some, sgs, sgn, Int.toNat_zero, Int.toNat_one, cd_ax hk, cd_ln hk, cd_pt hk, e, hp, h1, h2, ite_J]
    rfl
  · rw [e, hkp.2 hp]
    simp (disch := omega) only [j_X3_shiftOf_1, f_X3_shiftOf, f_X3_axisOf, f_X3_lineOf, f_X3_partOf, L0, L1, L2, L3, L4, L5, L6, L7, L8, L9, L10, L11, L12, L16, L21, L22, L24, L28, L32, L35, L40, L48, L57, L59, L64, L97, L100, L122, L200, L1000000, chk_J, jlt, jle, jeq, jcl, J_add, J_sub, J_mul, J_neg, Int.toNat_natCast, Option.bind_some, sgs, sgn, Int.toNat_zero, Int.toNat_one, cd_ax hk, cd_ln hk, cd_pt hk, e, hp, h1, h2, ite_J]
    rfl
