/-! ===== the class's packet ===== -/
theorem touching_eq {n : Nat} {S : St} {σ : Sg} (w : WF n S) (h : HP n S σ) {a b : Nat} (ha : a < n) (hb : b < n) : f_X3_touching σ (J a) (J b) = some (J (tcP S.2 a b)) := by
  obtain ⟨b1, b2, b3, b4, b5, b6, b7⟩ := w.bd ha
  obtain ⟨-, c2, c3, c4, c5, -, -⟩ := w.bd hb
  obtain ⟨a1, a2, a3, a4⟩ := h.2.2.2 a ha
  obtain ⟨d1, d2, d3, d4⟩ := h.2.2.2 b hb
  unfold tcP tc
  simp (disch := omega) only [j_X3_touching_1, f_X3_touching, L0, L1, L2, L3, L4, L5, L6, L7, L8, L9, L10, L11, L12, L16, L21, L22, L24, L28, L32, L35, L40, L48, L57, L59, L64, L97, L100, L122, L200, L1000000, chk_J, jlt, jle, jeq, jcl, J_add, J_sub, J_mul, J_neg, Int.toNat_natCast, Option.bind_some, sgs, sgn, Int.toNat_zero, Int.toNat_one, a1, a2, a3, a4, d1, d2, d3, d4]
  generalize S.2 0 a = x1 at *
  generalize S.2 0 b = x2 at *
  generalize S.2 1 a = y1 at *
  generalize S.2 1 b = y2 at *
  generalize S.2 2 a = l1 at *
  generalize S.2 2 b = l2 at *
  generalize S.2 3 a = f1 at *
  generalize S.2 3 b = f2 at *
  have e : ((if 0 ≤ l1 - l2 then J (l1 - l2) else J (0 - (l1 - l2))) = J 1) ↔ (l1 - l2 = 1 ∨ l2 - l1 = 1) := by
    split <;> rw [jeq (by omega) (by omega)] <;> omega
  simp only [e]
  (repeat' split) <;> first | rfl | (exfalso; omega)
theorem tcP_range (P : Pk) (a b : Nat) : 0 ≤ tcP P a b ∧ tcP P a b ≤ 3 := tc_range _ _ _ _ a b
/-! pairs -/
def HQ (m : Nat) (qa qb : Nat → Nat) (τ : Sg) : Prop := τ 0 0 = J m ∧ ∀ i, i < m → τ 1 i = J (qa i) ∧ τ 2 i = J (qb i)
def allT (qa qb : Nat → Nat) (P : Pk) : Nat → Bool
  | 0 => true
  | m + 1 => allT qa qb P m && decide (¬ tcP P (qa m) (qb m) = 0)
theorem allT_false {qa qb : Nat → Nat} {P : Pk} : ∀ {m k : Nat}, k ≤ m → allT qa qb P k = false → allT qa qb P m = false
  | 0, k, h, hk => by have e : k = 0 := by omega
                      subst e; exact hk
  | m + 1, k, h, hk => by
    rcases Nat.lt_or_ge m k with g | g
    · have e : k = m + 1 := by omega
      subst e; exact hk
    · unfold allT
      rw [allT_false g hk]; rfl
theorem allTouch_eq {n : Nat} {S : St} {σ τ : Sg} (w : WF n S) (h : HP n S σ) {m : Nat} {qa qb : Nat → Nat} (hm : m ≤ 6) (hq : HQ m qa qb τ) (hr : ∀ i, i < m → qa i < n ∧ qb i < n) : f_X3_allTouch σ τ = some (J (if allT qa qb S.2 m then 1 else 0)) := by
  rw [← Ok_eqs]
  unfold f_X3_allTouch
  rw [← J0]
  refine Ok_for1 m (fun k => allT qa qb S.2 k = true) (fun k κ hk hi hκ => ?_) (fun κ hi => ?_) 1000 0 (by omega) (by omega) rfl
  · obtain ⟨h1, h2⟩ := hq.2 k hk
    obtain ⟨h3, h4⟩ := hr k hk
    have ht := tcP_range S.2 (qa k) (qb k)
    simp (disch := omega) only [s_X3_allTouch_2, f_X3_allTouch, L0, L1, L2, L3, L4, L5, L6, L7, L8, L9, L10, L11, L12, L16, L21, L22, L24, L28, L32, L35, L40, L48, L57, L59, L64, L97, L100, L122, L200, L1000000, chk_J, jlt, jle, jeq, jcl, J_add, J_sub, J_mul, J_neg, Int.toNat_natCast, Option.bind_some, sgs, sgn, Int.toNat_zero, Int.toNat_one, hq.1, h1, h2, touching_eq w h h3 h4]
    rw [if_neg (by omega)]
    by_cases q : tcP S.2 (qa k) (qb k) = 0
    · rw [if_pos q, Ok_some]
      have : allT qa qb S.2 (k + 1) = false := by unfold allT; simp [q]
      rw [allT_false (by omega) this]
      rfl
    · rw [if_neg q]
      refine hκ ?_
      unfold allT
      simp [hi, q]
  · simp (disch := omega) only [s_X3_allTouch_2, f_X3_allTouch, L0, L1, L2, L3, L4, L5, L6, L7, L8, L9, L10, L11, L12, L16, L21, L22, L24, L28, L32, L35, L40, L48, L57, L59, L64, L97, L100, L122, L200, L1000000, chk_J, jlt, jle, jeq, jcl, J_add, J_sub, J_mul, J_neg, Int.toNat_natCast, Option.bind_some, sgs, sgn, Int.toNat_zero, Int.toNat_one, hq.1]
    rw [if_pos (by omega), Ok_some, hi]
    rfl
theorem countFought_eq {n : Nat} {S : St} {σ τ : Sg} (w : WF n S) (h : HP n S σ) {m : Nat} {qa qb : Nat → Nat} (hm : m ≤ 6) (hq : HQ m qa qb τ) (hr : ∀ i, i < m → qa i < n ∧ qb i < n) : f_X3_countFought σ τ = some (J (cnt (fun i => decide (tcP S.2 (qa i) (qb i) = 1)) m)) := by
  rw [← Ok_eqs]
  unfold f_X3_countFought
  rw [← J0]
  refine Ok_for2r m (fun k x => x = J (cnt (fun i => decide (tcP S.2 (qa i) (qb i) = 1)) k)) (fun k x κ hk hi hκ => ?_) (fun x κ hi => ?_) 1000 0 _ (by omega) (by omega) rfl
  · obtain ⟨h1, h2⟩ := hq.2 k hk
    obtain ⟨h3, h4⟩ := hr k hk
    have ht := tcP_range S.2 (qa k) (qb k)
    subst hi
    simp (disch := omega) only [s_X3_countFought_4, f_X3_countFought, L0, L1, L2, L3, L4, L5, L6, L7, L8, L9, L10, L11, L12, L16, L21, L22, L24, L28, L32, L35, L40, L48, L57, L59, L64, L97, L100, L122, L200, L1000000, chk_J, jlt, jle, jeq, jcl, J_add, J_sub, J_mul, J_neg, Int.toNat_natCast, Option.bind_some, sgs, sgn, Int.toNat_zero, Int.toNat_one, hq.1, h1, h2, touching_eq w h h3 h4]
    rw [if_neg (by omega)]
    by_cases q : tcP S.2 (qa k) (qb k) = 1
    · rw [if_pos q]
      refine hκ _ ?_
      rw [cnt_succ]; simp [q]
    · rw [if_neg q]
      refine hκ _ ?_
      rw [cnt_succ]; simp [q]
  · simp (disch := omega) only [s_X3_countFought_4, f_X3_countFought, L0, L1, L2, L3, L4, L5, L6, L7, L8, L9, L10, L11, L12, L16, L21, L22, L24, L28, L32, L35, L40, L48, L57, L59, L64, L97, L100, L122, L200, L1000000, chk_J, jlt, jle, jeq, jcl, J_add, J_sub, J_mul, J_neg, Int.toNat_natCast, Option.bind_some, sgs, sgn, Int.toNat_zero, Int.toNat_one, hq.1]
    rw [if_pos (by omega), Ok_some, hi]
/-! gain -/
def gn (wt : Nat → Int) (P : Pk) (c : Nat) : Nat → Int
  | 0 => 0
  | k + 1 => gn wt P c k + (if ¬ k = c ∧ tcP P c k = 1 then wt k else 0)
theorem gn_succ (wt : Nat → Int) (P : Pk) (c k : Nat) : gn wt P c (k + 1) = gn wt P c k + (if ¬ k = c ∧ tcP P c k = 1 then wt k else 0) := rfl
theorem gn_bd {wt : Nat → Int} {P : Pk} {c : Nat} : ∀ {k : Nat}, (∀ i, i < k → 0 ≤ wt i ∧ wt i ≤ 9) → 0 ≤ gn wt P c k ∧ gn wt P c k ≤ 9 * k
  | 0, _ => by unfold gn; omega
  | k + 1, h => by
    have h1 := gn_bd (P := P) (c := c) (k := k) (fun i hi => h i (by omega))
    have h2 := h k (by omega)
    unfold gn
    split <;> omega
theorem gainOf_eq {n : Nat} {S : St} {σ τ : Sg} (w : WF n S) (h : HP n S σ) {wt : Nat → Int} (hw : ∀ i, i < 16 → τ 0 i = J (wt i) ∧ 0 ≤ wt i ∧ wt i ≤ 9) {c : Nat} (hc : c < n) : f_X3_gainOf σ τ (J c) = some (J (gn wt S.2 c n)) := by
  rw [← Ok_eqs]
  unfold f_X3_gainOf
  rw [← J0]
  have hn := (w.bd hc).1
  refine Ok_for2r n (fun k x => x = J (gn wt S.2 c k)) (fun k x κ hk hi hκ => ?_) (fun x κ hi => ?_) 1000 0 _ (by omega) (by omega) rfl
  · have ht := tcP_range S.2 c k
    obtain ⟨hw1, hw2, hw3⟩ := hw k (by omega)
    subst hi
    simp (disch := omega) only [s_X3_gainOf_5, f_X3_gainOf, L0, L1, L2, L3, L4, L5, L6, L7, L8, L9, L10, L11, L12, L16, L21, L22, L24, L28, L32, L35, L40, L48, L57, L59, L64, L97, L100, L122, L200, L1000000, chk_J, jlt, jle, jeq, jcl, J_add, J_sub, J_mul, J_neg, Int.toNat_natCast, Option.bind_some, sgs, sgn, Int.toNat_zero, Int.toNat_one, h.1, touching_eq w h hc hk, hw1]
    rw [if_neg (by omega)]
    by_cases q1 : k = c
    · rw [if_pos (by omega)]
      refine hκ _ ?_
      rw [gn_succ]; simp [q1]
    · rw [if_neg (by omega)]
      by_cases q : tcP S.2 c k = 1
      · rw [if_pos q]
        refine hκ _ ?_
        rw [gn_succ]; simp [q, q1]
      · rw [if_neg q]
        refine hκ _ ?_
        rw [gn_succ]; simp [q]
  · simp (disch := omega) only [s_X3_gainOf_5, f_X3_gainOf, L0, L1, L2, L3, L4, L5, L6, L7, L8, L9, L10, L11, L12, L16, L21, L22, L24, L28, L32, L35, L40, L48, L57, L59, L64, L97, L100, L122, L200, L1000000, chk_J, jlt, jle, jeq, jcl, J_add, J_sub, J_mul, J_neg, Int.toNat_natCast, Option.bind_some, sgs, sgn, Int.toNat_zero, Int.toNat_one, h.1]
    rw [if_pos (by omega), Ok_some, hi]
/-! the thickest place -/
def mxl (f : Nat → Int) : Nat → Int
  | 0 => 0
  | k + 1 => if mxl f k < f k then f k else mxl f k
theorem mxl_bd {f : Nat → Int} {b : Int} (hb : 0 ≤ b) : ∀ {k : Nat}, (∀ i, i < k → 0 ≤ f i ∧ f i ≤ b) → 0 ≤ mxl f k ∧ mxl f k ≤ b
  | 0, _ => by unfold mxl; omega
  | k + 1, h => by
    have h1 := mxl_bd (f := f) hb (k := k) (fun i hi => h i (by omega))
    have h2 := h k (by omega)
    unfold mxl
    split <;> omega
theorem WF.n1 {n : Nat} {S : St} (w : WF n S) : 1 ≤ n := by
  obtain ⟨-, h2, -, -, -, h6, -⟩ := w
  obtain ⟨c, hc, -⟩ := h6 0 (by omega) (by omega)
  omega
theorem mxl_succ (f : Nat → Int) (k : Nat) : mxl f (k + 1) = if mxl f k < f k then f k else mxl f k := rfl
theorem ite_J {c : Prop} [Decidable c] {a b : Int} : (if c then J a else J b) = J (if c then a else b) := by split <;> rfl
theorem thickest_eq {n : Nat} {S : St} {σ : Sg} (w : WF n S) (h : HP n S σ) : f_X3_thickest σ = some (J (mxl (S.2 2) n + 1)) := by
  rw [← Ok_eqs]
  unfold f_X3_thickest
  rw [← J0]
  have hn := w.1
  have h1 := w.n1
  refine Ok_for2r n (fun k x => ∃ t : Int, x = J t ∧ ((k = 0 ∧ t = 0) ∨ (0 < k ∧ t = mxl (S.2 2) k + 1))) (fun k x κ hk hi hκ => ?_) (fun x κ hi => ?_) 1000 0 _ (by omega) (by omega) ⟨0, rfl, Or.inl ⟨rfl, rfl⟩⟩
  · obtain ⟨-, -, -, hl, -⟩ := w.bd hk
    obtain ⟨-, -, h3, -⟩ := h.2.2.2 k hk
    have hb := mxl_bd (f := S.2 2) (b := 16) (by omega) (k := k) (fun i hi => by have := (w.bd (show i < n by omega)).2.2.2.1; omega)
    obtain ⟨t, ht, hi⟩ := hi
    subst ht
    simp (disch := omega) only [s_X3_thickest_4, f_X3_thickest, L0, L1, L2, L3, L4, L5, L6, L7, L8, L9, L10, L11, L12, L16, L21, L22, L24, L28, L32, L35, L40, L48, L57, L59, L64, L97, L100, L122, L200, L1000000, chk_J, jlt, jle, jeq, jcl, J_add, J_sub, J_mul, J_neg, Int.toNat_natCast, Option.bind_some, sgs, sgn, Int.toNat_zero, Int.toNat_one, h.1, h3, ite_J]
    rw [if_neg (by omega)]
    refine hκ _ ⟨_, rfl, Or.inr ⟨by omega, ?_⟩⟩
    rw [mxl_succ]
    rcases hi with hi | hi
    · have e : k = 0 := hi.1
      subst e
      have e0 : mxl (S.2 2) 0 = 0 := rfl
      rw [e0]
      omega
    · omega
  · obtain ⟨t, ht, hi⟩ := hi
    subst ht
    simp (disch := omega) only [s_X3_thickest_4, f_X3_thickest, L0, L1, L2, L3, L4, L5, L6, L7, L8, L9, L10, L11, L12, L16, L21, L22, L24, L28, L32, L35, L40, L48, L57, L59, L64, L97, L100, L122, L200, L1000000, chk_J, jlt, jle, jeq, jcl, J_add, J_sub, J_mul, J_neg, Int.toNat_natCast, Option.bind_some, sgs, sgn, Int.toNat_zero, Int.toNat_one, h.1]
    rw [if_pos (by omega), Ok_some]
    rw [show t = mxl (S.2 2) n + 1 by omega]
/-! the line between two -/
def PT (S : St) (a b k : Nat) : Bool := decide (S.2 (1 - k % 2) a = S.2 (1 - k % 2) b ∧ ((S.2 (k % 2) a = kln k - 1 ∧ S.2 (k % 2) b = kln k) ∨ (S.2 (k % 2) a = kln k ∧ S.2 (k % 2) b = kln k - 1)))
theorem PT_iff (S : St) (a b k : Nat) : PT S a b k = true ↔ (k % 2 = 0 ∧ S.2 1 a = S.2 1 b ∧ ((S.2 0 a = kln k - 1 ∧ S.2 0 b = kln k) ∨ (S.2 0 a = kln k ∧ S.2 0 b = kln k - 1))) ∨ (k % 2 = 1 ∧ S.2 0 a = S.2 0 b ∧ ((S.2 1 a = kln k - 1 ∧ S.2 1 b = kln k) ∨ (S.2 1 a = kln k ∧ S.2 1 b = kln k - 1))) := by
  unfold PT
  rw [decide_eq_true_eq]
  rcases Nat.mod_two_eq_zero_or_one k with e | e <;> rw [e] <;> simp
theorem kln_bd {k : Nat} (h : k < 24) : 1 ≤ kln k ∧ kln k ≤ 3 := by unfold kln; omega
theorem isParted_eq {n : Nat} {S : St} {σ : Sg} (w : WF n S) (h : HP n S σ) {a b k : Nat} (ha : a < n) (hb : b < n) (hk : k < 24) : f_X3_isParted σ (J a) (J b) (J k) = some (J (if PT S a b k then 1 else 0)) := by
  obtain ⟨b1, b2, b3, b4, b5, b6, b7⟩ := w.bd ha
  obtain ⟨-, c2, c3, c4, c5, -, -⟩ := w.bd hb
  obtain ⟨a1, a2, a3, a4⟩ := h.2.2.2 a ha
  obtain ⟨d1, d2, d3, d4⟩ := h.2.2.2 b hb
  have hl := kln_bd hk
  have hPT := PT_iff S a b k
  cases hq : PT S a b k <;> rw [hq] at hPT <;> simp only [Bool.false_eq_true, if_false, if_true, false_iff, true_iff] at hPT ⊢
  all_goals
    rcases Nat.mod_two_eq_zero_or_one k with e | e
    · simp (disch := omega) only [j_X3_isParted_1, j_X3_isParted_2, j_X3_isParted_3, f_X3_isParted, f_X3_axisOf, f_X3_lineOf, L0, L1, L2, L3, L4, L5, L6, L7, L8, L9, L10, L11, L12, L16, L21, L22, L24, L28, L32, L35, L40, L48, L57, L59, L64, L97, L100, L122, L200, L1000000, chk_J, jlt, jle, jeq, jcl, J_add, J_sub, J_mul, J_neg, Int.toNat_natCast, Option.bind_some, sgs, sgn, Int.toNat_zero, Int.toNat_one, cd_ax hk, cd_ln hk, e, a1, a2, d1, d2, ite_J]
      (repeat' split) <;> first | rfl | (exfalso; omega)
    · simp (disch := omega) only [j_X3_isParted_1, j_X3_isParted_2, j_X3_isParted_3, f_X3_isParted, f_X3_axisOf, f_X3_lineOf, L0, L1, L2, L3, L4, L5, L6, L7, L8, L9, L10, L11, L12, L16, L21, L22, L24, L28, L32, L35, L40, L48, L57, L59, L64, L97, L100, L122, L200, L1000000, chk_J, jlt, jle, jeq, jcl, J_add, J_sub, J_mul, J_neg, Int.toNat_natCast, Option.bind_some, sgs, sgn, Int.toNat_zero, Int.toNat_one, cd_ax hk, cd_ln hk, e, a1, a2, d1, d2, ite_J]
      (repeat' split) <;> first | rfl | (exfalso; omega)
/-! may it be bent -/
theorem canBend_eq {n : Nat} {S : St} {σ : Sg} (w : WF n S) (h : HP n S σ) {k : Nat} (hk : k < 24) : f_X3_canBend σ (J k) = some (J (if vl S k then 1 else 0)) := by
  have hl := kln_bd hk
  have w2 := w.2.1
  have w3 := w.2.2.1
  rcases Nat.mod_two_eq_zero_or_one k with e | e
  · have hr : (if vl S k then (1 : Int) else 0) = if kln k < S.1 0 then 1 else 0 := by
      have hv : vl S k ↔ kln k < S.1 0 := by unfold vl; rw [e]
      by_cases q : vl S k
      · rw [if_pos q, if_pos (hv.mp q)]
      · rw [if_neg q, if_neg (fun g => q (hv.mpr g))]
    rw [hr]
    simp (disch := omega) only [j_X3_canBend_1, f_X3_canBend, f_X3_axisOf, f_X3_lineOf, L0, L1, L2, L3, L4, L5, L6, L7, L8, L9, L10, L11, L12, L16, L21, L22, L24, L28, L32, L35, L40, L48, L57, L59, L64, L97, L100, L122, L200, L1000000, chk_J, jlt, jle, jeq, jcl, J_add, J_sub, J_mul, J_neg, Int.toNat_natCast, Option.bind_some, sgs, sgn, Int.toNat_zero, Int.toNat_one, cd_ax hk, cd_ln hk, e, h.2.1, h.2.2.1]
    (repeat' split) <;> first | rfl | (exfalso; omega)
  · have hr : (if vl S k then (1 : Int) else 0) = if kln k < S.1 1 then 1 else 0 := by
      have hv : vl S k ↔ kln k < S.1 1 := by unfold vl; rw [e]
      by_cases q : vl S k
      · rw [if_pos q, if_pos (hv.mp q)]
      · rw [if_neg q, if_neg (fun g => q (hv.mpr g))]
    rw [hr]
    simp (disch := omega) only [j_X3_canBend_1, f_X3_canBend, f_X3_axisOf, f_X3_lineOf, L0, L1, L2, L3, L4, L5, L6, L7, L8, L9, L10, L11, L12, L16, L21, L22, L24, L28, L32, L35, L40, L48, L57, L59, L64, L97, L100, L122, L200, L1000000, chk_J, jlt, jle, jeq, jcl, J_add, J_sub, J_mul, J_neg, Int.toNat_natCast, Option.bind_some, sgs, sgn, Int.toNat_zero, Int.toNat_one, cd_ax hk, cd_ln hk, e, h.2.1, h.2.2.1]
    (repeat' split) <;> first | rfl | (exfalso; omega)
/-! a copy -/
theorem ccp_J {R : Type} {a : Int} {n0 n1 : Nat} {k : Option R} (h : 0 ≤ a ∧ a ≤ n0 ∧ a ≤ n1 ∧ a ≤ 1000000000) : ccp (J 0) (J 0) (J a) n0 n1 k = k := by
  unfold ccp
  rw [if_pos]
  have e0 : (J 0).toNatClampNeg = 0 := by decide
  rw [e0, jcl (by omega), L0, jlt (by omega) (by omega), jlt (by omega) (by omega)]
  omega
theorem copy_ok {n : Nat} {S : St} {σ τ : Sg} (hn : n ≤ 16) (h : HP n S τ) : Ok (f_X3_copyFrom σ τ) (fun z => HP n S z) := by
  obtain ⟨h1, h2, h3, h4⟩ := h
  unfold f_X3_copyFrom
  simp (disch := omega) only [sgs, sgn, sas, san, h1, h2, h3, if_true, L0, ccp_J, Ok_some, if_neg, jcl, Int.toNat_natCast, Int.toNat_zero]
  refine ⟨?_, ?_, ?_, fun c hc => ?_⟩
  · simp (disch := omega) only [sgs, sgn, sas, san, if_true, if_neg]
  · simp (disch := omega) only [sgs, sgn, sas, san, if_true, if_neg]
  · simp (disch := omega) only [sgs, sgn, sas, san, if_true, if_neg]
  · obtain ⟨g1, g2, g3, g4⟩ := h4 c hc
    simp (disch := omega) only [sgs, sgn, sas, san, if_true, if_neg, va_cpy]
    rw [if_pos (by omega), if_pos (by omega), if_pos (by omega), if_pos (by omega), show 0 + (c - 0) = c by omega]
    exact ⟨g1, g2, g3, g4⟩
