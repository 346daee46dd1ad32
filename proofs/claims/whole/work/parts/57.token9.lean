/-! ===== a token, as the reference reads it ===== -/
def H9T (T : Nat → Int) (len : Nat) (μ : Sg) : Prop := len ≤ 200 ∧ μ 0 2 = J len ∧ ∀ j, j < len → μ 1 j = J (T j) ∧ 0 ≤ T j ∧ T j ≤ 255
theorem bt_bd9 {T : Nat → Int} {len : Nat} {σ : Sg} (h : H9T T len σ) (p : Nat) : -1 ≤ bt T len p ∧ bt T len p ≤ 255 := by
  unfold bt; split
  · next q => have := (h.2.2 p q).2; omega
  · omega
theorem byte9_eq {T : Nat → Int} {len : Nat} {μ : Sg} {tr : Int64} (h : H9T T len μ) {p : Nat} (hp : p ≤ 1000) : f_X9_byteAt μ tr (J p) = some (J (bt T len p)) := by
  obtain ⟨h1, h2, h3⟩ := h
  unfold bt
  simp (disch := omega) only [f_X9_byteAt, L0, L1, L2, L3, L4, L5, L6, L7, L8, L9, L10, L11, L12, L16, L21, L22, L24, L28, L32, L35, L40, L48, L57, L59, L64, L97, L100, L122, L200, L1000000, chk_J, jlt, jle, jeq, jcl, J_add, J_sub, J_mul, J_neg, Int.toNat_natCast, Option.bind_some, sgs, sgn, if_true, if_false, Int.toNat_zero, Int.toNat_one, h2]
  by_cases q : p < len
  · rw [if_neg (by omega), if_pos q, (h3 p q).1]
  · rw [if_pos (by omega), if_neg q]
def sof9 (b : Int) : Nat := if b < 0 then 0 else if isLe b then 1 else if isDi b then 2 else if b = 59 then 3 else 4
theorem sof_le (b : Int) : sof9 b ≤ 4 := by unfold sof9; (repeat' split) <;> omega
theorem sortOf_eq {b : Int} (hb : -1 ≤ b ∧ b ≤ 255) : f_X9_sortOf (J b) = some (J (sof9 b : Nat)) := by
  unfold f_X9_sortOf
  rw [L97, L122, L48, L57, in_eq (by omega) (by omega) (by omega), in_eq (by omega) (by omega) (by omega), Option.bind_some, Option.bind_some]
  have c0 : (0 : Int32) ≤ J b ↔ 0 ≤ b := by rw [L0, jle (by omega) (by omega)]
  have c59 : J b = (59 : Int32) ↔ b = 59 := by rw [L59, jeq (by omega) (by omega)]
  by_cases q : 0 ≤ b
  · have nb : ¬ b < 0 := by omega
    rw [if_pos (c0.mpr q)]
    by_cases q1 : 97 ≤ b ∧ b ≤ 122
    · have e : sof9 b = 1 := by unfold sof9 isLe; rw [if_neg nb, if_pos (decide_eq_true q1)]
      rw [e, if_pos q1, if_neg (by decide +kernel)]; decide +kernel
    · have n1 : ¬ decide (97 ≤ b ∧ b ≤ 122) = true := by simp only [decide_eq_true_eq]; exact q1
      rw [if_neg q1, if_pos (by decide +kernel)]
      by_cases q2 : 48 ≤ b ∧ b ≤ 57
      · have e : sof9 b = 2 := by unfold sof9 isLe isDi; rw [if_neg nb, if_neg n1, if_pos (decide_eq_true q2)]
        rw [e, if_pos q2, if_neg (by decide +kernel)]; decide +kernel
      · have n2 : ¬ decide (48 ≤ b ∧ b ≤ 57) = true := by simp only [decide_eq_true_eq]; exact q2
        rw [if_neg q2, if_pos (by decide +kernel)]
        by_cases q3 : b = 59
        · have e : sof9 b = 3 := by unfold sof9 isLe isDi; rw [if_neg nb, if_neg n1, if_neg n2, if_pos q3]
          rw [e, if_pos (c59.mpr q3)]; decide +kernel
        · have e : sof9 b = 4 := by unfold sof9 isLe isDi; rw [if_neg nb, if_neg n1, if_neg n2, if_neg q3]
          rw [e, if_neg (fun g => q3 (c59.mp g))]; decide +kernel
  · have e : sof9 b = 0 := by unfold sof9; rw [if_pos (by omega)]
    rw [e, if_neg (fun g => q (c0.mp g))]; decide +kernel
theorem tK_sof {T : Nat → Int} {len : Nat} {μ : Sg} (h : H9T T len μ) (p : Nat) : tK T len p = sof9 (bt T len (tS T len p)) := by
  unfold tK sof9 bt
  by_cases q : len ≤ tS T len p
  · rw [if_pos q, if_neg (show ¬ tS T len p < len by omega), if_pos (show (-1 : Int) < 0 by omega)]
  · have := (h.2.2 (tS T len p) (by omega)).2
    rw [if_neg q, if_pos (show tS T len p < len by omega), if_neg (show ¬ T (tS T len p) < 0 by omega)]
/-- what a token leaves -/
def TK (T : Nat → Int) (len p : Nat) (μ z : Sg) : Prop := (∀ q, q ≠ 0 → z q = μ q) ∧ (∀ i, i ≠ 11 → i ≠ 12 → i ≠ 13 → i ≠ 14 → z 0 i = μ 0 i) ∧ z 0 11 = J (tE T len p) ∧ z 0 12 = J (tK T len p) ∧ z 0 13 = J (tS T len p) ∧ z 0 14 = J ((tE T len p - tS T len p : Nat) : Int)
theorem H9T.tk {T : Nat → Int} {len p : Nat} {μ z : Sg} (h : H9T T len μ) (ht : TK T len p μ z) : H9T T len z := by
  obtain ⟨h1, h2, h3⟩ := h
  refine ⟨h1, by rw [ht.2.1 2 (by omega) (by omega) (by omega) (by omega)]; exact h2, fun j hj => by rw [ht.1 1 (by omega)]; exact h3 j hj⟩
theorem H9T.st {T : Nat → Int} {len : Nat} {μ : Sg} (h : H9T T len μ) {j : Nat} (hj : j ≠ 2) (v : Int32) : H9T T len (sg_st μ 0 j v) := by
  obtain ⟨h1, h2, h3⟩ := h
  exact ⟨h1, by rw [sgs, if_neg (by omega)]; exact h2, fun i hi => by rw [sgn (by omega)]; exact h3 i hi⟩
theorem skip9_ok {T : Nat → Int} {len : Nat} {g : Sg} {tr : Int64} (h : H9T T len g) {E : Sg → Option Sg} {P : Sg → Prop} {p : Nat} (hp : p ≤ len) (h3 : g 0 11 = J p) (hE : Ok (E (sg_st g 0 11 (J (tS T len p)))) P) : Ok (lc1 (s_X9_token_0 tr E) 1000 g) P := by
  have hl := h.1
  refine Ok_lc1 (fun n x => ∃ r : Nat, x = sg_st g 0 11 (J r) ∧ n = len - r ∧ p ≤ r ∧ r ≤ len ∧ rn isSp T len r = tS T len p) (fun n x κ hi hκ => ?_) 1000 (len - p) g (by omega) ⟨p, (sg_self h3).symm, rfl, Nat.le_refl _, hp, rfl⟩
  obtain ⟨r, hx, hn, h1, h2, h4⟩ := hi
  subst hx
  have hg := h.st (j := 11) (by omega) (J r)
  have g3 : (sg_st g 0 11 (J r)) 0 11 = J r := by rw [sgs, if_pos rfl]
  have bb := bt_bd9 h r
  unfold s_X9_token_0
  rw [g3, byte9_eq hg (p := r) (by omega), Option.bind_some, sg_twice]
  simp (disch := omega) only [jeq, L32, L1, J_add]
  by_cases q : len ≤ r
  · have bq : bt T len r = -1 := by unfold bt; rw [if_neg (by omega)]
    rw [bq, if_neg (by omega)]
    rw [rn_st (by omega)] at h4
    rw [h4]; exact hE
  · have bq : bt T len r = T r := by unfold bt; rw [if_pos (by omega)]
    rw [bq]
    by_cases q2 : T r = 32
    · rw [if_pos q2]
      refine hκ (len - (r + 1)) _ (by omega) ⟨r + 1, rfl, rfl, by omega, by omega, ?_⟩
      rw [← rn_go (by omega) (by unfold isSp; simp [q2])]; exact h4
    · rw [if_neg q2]
      rw [rn_st (by unfold isSp; simp [q2])] at h4
      rw [h4]; exact hE
theorem token9_ok {T : Nat → Int} {len : Nat} {g : Sg} {tr : Int64} (h : H9T T len g) {p : Nat} (hp : p ≤ len) (h3 : g 0 11 = J p) : Ok (f_X9_token g tr) (fun z => TK T len p g z) := by
  have hl := h.1
  obtain ⟨p1, p2⟩ := tS_pr T len hp
  obtain ⟨p3, p4, p5⟩ := tE_pr T len hp
  have hKs := tK_sof h p
  unfold f_X9_token
  refine skip9_ok h hp h3 ?_
  unfold TK
  have hE : tE T len p = if tK T len p = 0 then tS T len p else if tK T len p = 1 then rn isLe T len (tS T len p) else if tK T len p = 2 then rn isDi T len (tS T len p) else tS T len p + 1 := rfl
  generalize tS T len p = s at *
  generalize tE T len p = e at *
  generalize tK T len p = k at *
  have hk4 : k ≤ 4 := by rw [hKs]; exact sof_le _
  have hg := h.st (j := 11) (by omega) (J s)
  have hx := hg.st (j := 13) (by omega) (J s)
  have bb := bt_bd9 h s
  have y3 : (sg_st g 0 11 (J s)) 0 11 = J s := by rw [sgs, if_pos rfl]
  have x11 : (sg_st (sg_st g 0 11 (J s)) 0 13 (J s)) 0 11 = J s := by rw [sgs, if_neg (by omega)]; exact y3
  unfold j_X9_token_1
  rw [y3, x11, byte9_eq hx (by omega), Option.bind_some, sortOf_eq bb, Option.bind_some, ← hKs]
  refine Ok_lc1 (fun n x => ∃ r : Nat, n = e - r ∧ s ≤ r ∧ r ≤ e ∧ (∀ q, q ≠ 0 → x q = g q) ∧ (∀ i, i ≠ 11 → i ≠ 12 → i ≠ 13 → i ≠ 14 → x 0 i = g 0 i) ∧ x 0 11 = J r ∧ x 0 12 = J k ∧ x 0 13 = J s ∧ x 0 14 = J ((r - s : Nat) : Int)) (fun n x κ hi hκ => ?_) 1000 (e - s) _ (by omega) ⟨s, rfl, Nat.le_refl _, p3, fun q hq => by funext i; rw [sgn hq, sgn hq, sgn hq, sgn hq], fun i a b c d => by rw [sgs, if_neg d, sgs, if_neg b, sgs, if_neg c, sgs, if_neg a], by rw [sgs, if_neg (by omega), sgs, if_neg (by omega)]; exact x11, by rw [sgs, if_neg (by omega), sgs, if_pos rfl], by rw [sgs, if_neg (by omega), sgs, if_neg (by omega), sgs, if_pos rfl], by rw [sgs, if_pos rfl, Nat.sub_self, L0]; rfl⟩
  obtain ⟨r, hn, r1, r2, i1, i2, i3, i4, i5, i6⟩ := hi
  have hxr : H9T T len x := by
    obtain ⟨a1, a2, a3⟩ := h
    exact ⟨a1, by rw [i2 2 (by omega) (by omega) (by omega) (by omega)]; exact a2, fun j hj => by rw [i1 1 (by omega)]; exact a3 j hj⟩
  have adv : r < e → Ok (j_X9_token_2 x κ) (fun z => (∀ q, q ≠ 0 → z q = g q) ∧ (∀ i, i ≠ 11 → i ≠ 12 → i ≠ 13 → i ≠ 14 → z 0 i = g 0 i) ∧ z 0 11 = J e ∧ z 0 12 = J k ∧ z 0 13 = J s ∧ z 0 14 = J ((e - s : Nat) : Int)) := by
    intro hlt
    unfold j_X9_token_2
    rw [i3, sgs, if_neg (by omega), i6, L1, J_add, J_add]
    refine hκ (e - (r + 1)) _ (by omega) ⟨r + 1, rfl, by omega, by omega, fun q hq => by funext i; rw [sgn hq, sgn hq, i1 q hq], fun i a b c d => by rw [sgs, if_neg d, sgs, if_neg a]; exact i2 i a b c d, by rw [sgs, if_neg (by omega), sgs, if_pos rfl]; rfl, by rw [sgs, if_neg (by omega), sgs, if_neg (by omega)]; exact i4, by rw [sgs, if_neg (by omega), sgs, if_neg (by omega)]; exact i5, by rw [sgs, if_pos rfl]; exact congrArg J (by omega)⟩
  have stop : r = e → Ok (some x) (fun z => (∀ q, q ≠ 0 → z q = g q) ∧ (∀ i, i ≠ 11 → i ≠ 12 → i ≠ 13 → i ≠ 14 → z 0 i = g 0 i) ∧ z 0 11 = J e ∧ z 0 12 = J k ∧ z 0 13 = J s ∧ z 0 14 = J ((e - s : Nat) : Int)) := by
    intro he
    rw [Ok_some]
    subst he
    exact ⟨i1, i2, i3, i4, i5, i6⟩
  have bbr := bt_bd9 h r
  -- whether a row of letters, of digits goes on
  have j3 : (0 < r - s ∨ k = 0) → Ok (j_X9_token_3 tr x κ) (fun z => (∀ q, q ≠ 0 → z q = g q) ∧ (∀ i, i ≠ 11 → i ≠ 12 → i ≠ 13 → i ≠ 14 → z 0 i = g 0 i) ∧ z 0 11 = J e ∧ z 0 12 = J k ∧ z 0 13 = J s ∧ z 0 14 = J ((e - s : Nat) : Int)) := by
    intro hrs
    have j4 : (k = 1 ∨ k = 2) → Ok (j_X9_token_4 tr x κ) (fun z => (∀ q, q ≠ 0 → z q = g q) ∧ (∀ i, i ≠ 11 → i ≠ 12 → i ≠ 13 → i ≠ 14 → z 0 i = g 0 i) ∧ z 0 11 = J e ∧ z 0 12 = J k ∧ z 0 13 = J s ∧ z 0 14 = J ((e - s : Nat) : Int)) := by
      intro hk
      have sl := sof_le (bt T len r)
      unfold j_X9_token_4
      rw [i3, byte9_eq hxr (by omega), Option.bind_some, sortOf_eq bbr, Option.bind_some, i4]
      simp (disch := omega) only [jeq]
      have hcont : (sof9 (bt T len r) = k) ↔ (r < len ∧ (if k = 1 then isLe (T r) else isDi (T r)) = true) := by
        unfold sof9 bt
        by_cases q : r < len
        · rw [if_pos q]
          have tb := (h.2.2 r q).2
          rw [if_neg (by omega)]
          rcases hk with hk | hk <;> subst hk
          · simp only [if_true, q, true_and]
            cases hL : isLe (T r)
            · simp; split
              · omega
              · split <;> omega
            · simp
          · simp only [show ¬ (2 : Nat) = 1 by decide, if_false, q, true_and]
            cases hL : isLe (T r)
            · cases hD : isDi (T r)
              · simp; split <;> omega
              · simp
            · have : isDi (T r) = false := by
                unfold isLe at hL; unfold isDi
                simp only [decide_eq_true_eq] at hL
                simp only [decide_eq_false_iff_not]; omega
              rw [this]; simp
        · rw [if_neg q, if_pos (by omega)]
          constructor
          · intro q2; omega
          · intro q2; exact absurd q2.1 q
      rcases hk with hk | hk
      · subst hk
        rw [if_neg (by omega), if_pos rfl] at hE
        simp only [if_true] at hcont
        obtain ⟨e1, e2, e3, e4⟩ := rn_ge (q := isLe) (T := T) (len := len) (p := s) (Nat.le_refl _)
        rw [← hE] at e1 e2 e3 e4
        by_cases q : (sof9 (bt T len r) : Int) = ((1 : Nat) : Int)
        · rw [if_pos q]
          have hc := hcont.mp (by omega)
          refine adv ?_
          rcases Nat.lt_or_ge r e with q2 | q2
          · exact q2
          · have : r = e := by omega
            subst this; exact absurd hc e3
        · rw [if_neg q]
          refine stop ?_
          rcases Nat.lt_or_ge r e with q2 | q2
          · exact absurd (hcont.mpr (e4 r r1 q2)) (by omega)
          · omega
      · subst hk
        rw [if_neg (by omega), if_neg (by omega), if_pos rfl] at hE
        simp only [show ¬ (2 : Nat) = 1 by decide, if_false] at hcont
        obtain ⟨e1, e2, e3, e4⟩ := rn_ge (q := isDi) (T := T) (len := len) (p := s) (Nat.le_refl _)
        rw [← hE] at e1 e2 e3 e4
        by_cases q : (sof9 (bt T len r) : Int) = ((2 : Nat) : Int)
        · rw [if_pos q]
          have hc := hcont.mp (by omega)
          refine adv ?_
          rcases Nat.lt_or_ge r e with q2 | q2
          · exact q2
          · have : r = e := by omega
            subst this; exact absurd hc e3
        · rw [if_neg q]
          refine stop ?_
          rcases Nat.lt_or_ge r e with q2 | q2
          · exact absurd (hcont.mpr (e4 r r1 q2)) (by omega)
          · omega
    unfold j_X9_token_3
    rw [i4]
    simp (disch := omega) only [L1, L2, jeq]
    by_cases q1 : (k : Int) = 1
    · rw [if_pos q1]; exact j4 (by omega)
    · rw [if_neg q1]
      by_cases q2 : (k : Int) = 2
      · rw [if_pos q2]; exact j4 (by omega)
      · rw [if_neg q2]
        refine stop ?_
        by_cases q0 : k = 0
        · rw [if_pos q0] at hE; omega
        · rw [if_neg q0, if_neg (by omega), if_neg (by omega)] at hE; omega
  unfold s_X9_token_54
  rw [i6, i4]
  simp (disch := omega) only [L0, jeq]
  by_cases q : ((r - s : Nat) : Int) = 0
  · rw [if_pos q]
    by_cases q0 : (k : Int) = 0
    · rw [if_pos q0]; exact j3 (by omega)
    · rw [if_neg q0]
      have := p5 (by omega)
      exact adv (by omega)
  · rw [if_neg q]; exact j3 (by omega)
theorem tT2_iff {T : Nat → Int} {len p : Nat} : tT T len p = 2 ↔ (tK T len p = 2 ∧ ¬ (2 < tE T len p - tS T len p ∨ (1 < tE T len p - tS T len p ∧ T (tS T len p) = 48))) := by
  unfold tT wT
  by_cases k0 : tK T len p = 0
  · rw [if_pos k0]; omega
  · rw [if_neg k0]
    by_cases k1 : tK T len p = 1
    · rw [if_pos k1]
      constructor
      · intro q; (repeat' split at q) <;> omega
      · omega
    · rw [if_neg k1]
      by_cases k2 : tK T len p = 2
      · rw [if_pos k2]
        by_cases q : 2 < tE T len p - tS T len p ∨ (1 < tE T len p - tS T len p ∧ T (tS T len p) = 48)
        · rw [if_pos q]; omega
        · rw [if_neg q]; omega
      · rw [if_neg k2]
        by_cases k3 : tK T len p = 3
        · rw [if_pos k3]; omega
        · rw [if_neg k3]; omega
theorem tK2_dig {T : Nat → Int} {len p : Nat} (h : tK T len p = 2) : tS T len p < len ∧ isDi (T (tS T len p)) = true := by
  unfold tK at h
  by_cases q : len ≤ tS T len p
  · rw [if_pos q] at h; omega
  · rw [if_neg q] at h
    refine ⟨by omega, ?_⟩
    cases hL : isLe (T (tS T len p)) <;> rw [hL] at h
    · cases hD : isDi (T (tS T len p))
      · rw [hD] at h
        simp at h; split at h <;> omega
      · rfl
    · simp at h
theorem tV_bd {T : Nat → Int} {len p : Nat} (hp : p ≤ len) (h : tT T len p = 2) : 0 ≤ tV T len p ∧ tV T len p ≤ 99 := by
  obtain ⟨h1, h2⟩ := tT2_iff.mp h
  obtain ⟨h3, h4⟩ := tK2_dig h1
  obtain ⟨p3, p4, p5⟩ := tE_pr T len hp
  have p5 := p5 (by omega)
  have d0 : 48 ≤ T (tS T len p) ∧ T (tS T len p) ≤ 57 := of_decide_eq_true h4
  unfold tV
  by_cases q : tE T len p - tS T len p = 1
  · rw [if_pos q]; omega
  · rw [if_neg q]
    have e : tE T len p = rn isDi T len (tS T len p) := by unfold tE; rw [if_neg (by omega), if_neg (by omega), if_pos h1]
    obtain ⟨-, -, -, e4⟩ := rn_ge (q := isDi) (T := T) (len := len) (p := tS T len p) (Nat.le_refl _)
    have d1 : 48 ≤ T (tS T len p + 1) ∧ T (tS T len p + 1) ≤ 57 := of_decide_eq_true (e4 (tS T len p + 1) (by omega) (by omega)).2
    omega
/-- a number within its bounds, or none -/
def nm (T : Nat → Int) (len p : Nat) (lo hi : Int) : Int := if tT T len p = 2 ∧ lo ≤ tV T len p ∧ tV T len p ≤ hi then tV T len p else -9
theorem number9_ok {T : Nat → Int} {len : Nat} {g : Sg} {tr : Int64} (h : H9T T len g) {p : Nat} (hp : p ≤ len) (h3 : g 0 11 = J p) {lo hi : Int} (hlo : -100 ≤ lo ∧ lo ≤ 100) (hhi : -100 ≤ hi ∧ hi ≤ 100) : Ok (f_X9_number g tr (J lo) (J hi)) (fun z => TK T len p g z.2 ∧ z.1 = J (nm T len p lo hi)) := by
  have hl := h.1
  obtain ⟨p1, p2⟩ := tS_pr T len hp
  obtain ⟨p3, p4, p5⟩ := tE_pr T len hp
  unfold f_X9_number
  rw [Ok_bind]
  refine (token9_ok h hp h3).mono (fun z hz => ?_)
  have hz' := hz
  obtain ⟨z1, z2, z3, z4, z5, z6⟩ := hz
  have hx := h.tk hz'
  have bb := bt_bd9 h (tS T len p)
  have bb1 := bt_bd9 h (tS T len p + 1)
  have k4 : tK T len p ≤ 4 := by rw [tK_sof h p]; exact sof_le _
  have vbd := tV_bd (T := T) hp
  rw [z5, byte9_eq hx (by omega), Option.bind_some, z6]
  have b1 : f_X9_byteAt z tr (J (tS T len p) + 1) = some (J (bt T len (tS T len p + 1))) := by
    rw [L1, J_add, show ((tS T len p : Int) + 1) = ((tS T len p + 1 : Nat) : Int) from rfl]
    exact byte9_eq hx (by omega)
  rw [b1, Option.bind_some]
  have j1 : ∀ x : Int, (-1000000 ≤ x ∧ x ≤ 1000000) → (tT T len p = 2 → x = tV T len p) → Ok (j_X9_number_1 (J lo) (J hi) z (J (bt T len (tS T len p))) (J x)) (fun z => TK T len p g z.2 ∧ z.1 = J (nm T len p lo hi)) := by
    intro x xb hx
    have iff2 := tT2_iff (T := T) (len := len) (p := p)
    have j2 : tT T len p = 2 → Ok (j_X9_number_2 (J lo) (J hi) z (J x)) (fun z => TK T len p g z.2 ∧ z.1 = J (nm T len p lo hi)) := by
      intro ht
      unfold j_X9_number_2 nm
      rw [hx ht] at xb ⊢
      rw [in_eq (by omega) (by omega) (by omega), Option.bind_some]
      by_cases q : lo ≤ tV T len p ∧ tV T len p ≤ hi
      · rw [if_pos q, if_neg (by decide +kernel), Ok_some]
        exact ⟨hz', by rw [if_pos ⟨ht, q⟩]⟩
      · rw [if_neg q, if_pos (by decide +kernel), Ok_some]
        exact ⟨hz', by rw [if_neg (fun g => q g.2), L9, J_neg]⟩
    have none : ¬ tT T len p = 2 → Ok (some ((-9 : Int32), z)) (fun z => TK T len p g z.2 ∧ z.1 = J (nm T len p lo hi)) := by
      intro ht
      rw [Ok_some]
      unfold nm
      exact ⟨hz', by rw [if_neg (fun g => ht g.1), L9, J_neg]⟩
    unfold j_X9_number_1
    rw [z4, z6]
    simp (disch := omega) only [L2, L1, L48, L0, J_sub, jeq, jle]
    by_cases q1 : (tK T len p : Int) = 2
    · rw [if_pos q1]
      have p5 := p5 (by omega)
      obtain ⟨d1, d2⟩ := tK2_dig (T := T) (len := len) (p := p) (by omega)
      have bq : bt T len (tS T len p) = T (tS T len p) := by unfold bt; rw [if_pos d1]
      have d0 : 48 ≤ T (tS T len p) ∧ T (tS T len p) ≤ 57 := of_decide_eq_true d2
      rw [bq]
      by_cases q2 : ((tE T len p - tS T len p : Nat) : Int) = 1
      · rw [if_pos q2]; exact j2 (by omega)
      · rw [if_neg q2]
        by_cases q3 : ((tE T len p - tS T len p : Nat) : Int) = 2
        · rw [if_pos q3]
          by_cases q4 : T (tS T len p) - 48 ≤ 0
          · rw [if_pos q4]; exact none (by omega)
          · rw [if_neg q4]; exact j2 (by omega)
        · rw [if_neg q3]; exact none (by omega)
    · rw [if_neg q1]; exact none (by omega)
  have bq : tT T len p = 2 → bt T len (tS T len p) = T (tS T len p) := fun ht => by unfold bt; rw [if_pos (tK2_dig (tT2_iff.mp ht).1).1]
  simp (disch := omega) only [L2, L10, L48, J_sub, J_mul, J_add, jeq]
  by_cases q : ((tE T len p - tS T len p : Nat) : Int) = 2
  · rw [if_pos q]
    refine j1 _ (by omega) (fun ht => ?_)
    have bq1 : bt T len (tS T len p + 1) = T (tS T len p + 1) := by unfold bt; rw [if_pos (by omega)]
    rw [bq ht, bq1]
    unfold tV
    rw [if_neg (by omega)]
  · rw [if_neg q]
    refine j1 _ (by omega) (fun ht => ?_)
    rw [bq ht]
    have := (tT2_iff.mp ht).2
    have p5 := p5 (by rw [(tT2_iff.mp ht).1]; omega)
    unfold tV
    rw [if_pos (by omega)]
