/-! ===== creases ===== -/
def crB (W n a b : Nat) : Bool := decide (a < b ∧ b < n ∧ ((b = a + 1 ∧ a % W + 1 < W) ∨ b = a + W))
theorem crB_iff {W n a b : Nat} : crB W n a b = true ↔ (a < b ∧ b < n ∧ ((b = a + 1 ∧ a % W + 1 < W) ∨ b = a + W)) := by unfold crB; exact decide_eq_true_iff
/-- the creases as the class lists them -/
def HC (W n m : Nat) (ca cb : Nat → Nat) (σ : Sg) : Prop := σ 0 0 = J m ∧ m ≤ 24 ∧ (∀ i, i < m → σ 1 i = J (ca i) ∧ σ 2 i = J (cb i) ∧ crB W n (ca i) (cb i) = true) ∧ ∀ a b, crB W n a b = true → ∃ i, i < m ∧ ca i = a ∧ cb i = b
theorem HC.cong {W n m : Nat} {ca cb : Nat → Nat} {σ z : Sg} (h : HC W n m ca cb σ) (h0 : z 0 = σ 0) (h1 : z 1 = σ 1) (h2 : z 2 = σ 2) : HC W n m ca cb z := by
  unfold HC; rw [h0, h1, h2]; exact h
theorem adj_iff {W a b : Nat} (h1 : 1 ≤ W) (h2 : W ≤ 4) (ha : a < b) (hb : b < 16) : ((if 0 ≤ ((a % W : Nat) : Int) - ((b % W : Nat) : Int) then ((a % W : Nat) : Int) - ((b % W : Nat) : Int) else 0 - (((a % W : Nat) : Int) - ((b % W : Nat) : Int))) + (if 0 ≤ ((a / W : Nat) : Int) - ((b / W : Nat) : Int) then ((a / W : Nat) : Int) - ((b / W : Nat) : Int) else 0 - (((a / W : Nat) : Int) - ((b / W : Nat) : Int))) = 1) ↔ ((b = a + 1 ∧ a % W + 1 < W) ∨ b = a + W) := by
  have : ∀ (W : Fin 5) (a b : Fin 16), 1 ≤ W.1 → a.1 < b.1 → (((if 0 ≤ ((a.1 % W.1 : Nat) : Int) - ((b.1 % W.1 : Nat) : Int) then ((a.1 % W.1 : Nat) : Int) - ((b.1 % W.1 : Nat) : Int) else 0 - (((a.1 % W.1 : Nat) : Int) - ((b.1 % W.1 : Nat) : Int))) + (if 0 ≤ ((a.1 / W.1 : Nat) : Int) - ((b.1 / W.1 : Nat) : Int) then ((a.1 / W.1 : Nat) : Int) - ((b.1 / W.1 : Nat) : Int) else 0 - (((a.1 / W.1 : Nat) : Int) - ((b.1 / W.1 : Nat) : Int))) = 1) ↔ ((b.1 = a.1 + 1 ∧ a.1 % W.1 + 1 < W.1) ∨ b.1 = a.1 + W.1)) := by decide +kernel
  exact this ⟨W, by omega⟩ ⟨a, by omega⟩ ⟨b, hb⟩ h1 ha
theorem cnt_mono (p : Nat → Bool) {a b : Nat} (h : a ≤ b) : cnt p a ≤ cnt p b := by
  obtain ⟨d, rfl⟩ := Nat.le.dest h
  rw [cnt_add]
  have := cnt_nonneg (fun j => p (a + j)) d
  omega
theorem sumI_mono {f : Nat → Int} (hf : ∀ k, 0 ≤ f k) {a : Nat} : ∀ {b : Nat}, a ≤ b → sumI f a ≤ sumI f b
  | 0, h => by rw [show a = 0 by omega]; exact Int.le_refl _
  | b + 1, h => by
    rcases Nat.lt_or_ge b a with g | g
    · rw [show a = b + 1 by omega]; exact Int.le_refl _
    · have := sumI_mono hf (a := a) g
      have := hf b
      rw [sumI_succ]; omega
theorem cr_total {W H : Nat} (h1 : 1 ≤ W) (h2 : W ≤ 4) (h3 : 1 ≤ H) (h4 : H ≤ 4) : sumI (fun a => cnt (fun b => crB W (W * H) a b) (W * H)) (W * H) ≤ 24 := by
  have : ∀ (W H : Fin 5), sumI (fun a => cnt (fun b => crB W.1 (W.1 * H.1) a b) (W.1 * H.1)) (W.1 * H.1) ≤ 24 := by decide +kernel
  exact this ⟨W, by omega⟩ ⟨H, by omega⟩
theorem layOut_ok {W H : Nat} (h1 : 1 ≤ W) (h2 : W ≤ 4) (h3 : 1 ≤ H) (h4 : H ≤ 4) {σ τ : Sg} (h : HP (W * H) (Fl W H) τ) : Ok (f_X0_layOut σ τ) (fun z => (∃ m ca cb, HC W (W * H) m ca cb z) ∧ ∀ q, 3 ≤ q → z q = σ q) := by
  have hn : W * H ≤ 16 := Nat.mul_le_mul h2 h4
  have htot := cr_total h1 h2 h3 h4
  have hx : ∀ c, c < W * H → τ 1 c = J ((c % W : Nat) : Int) ∧ τ 2 c = J ((c / W : Nat) : Int) := fun c hc => ⟨(h.2.2.2 c hc).1, (h.2.2.2 c hc).2.1⟩
  have hr : ∀ c, c < W * H → c % W < 4 ∧ c / W < 4 := fun c hc => by
    have := Nat.mod_lt c (show W > 0 by omega)
    have := Nat.div_lt_of_lt_mul hc
    omega
  have h00 := h.1
  unfold f_X0_layOut
  generalize W * H = n at *
  rw [show (0 : Int32) = J ((0 : Nat) : Int) from by decide]
  refine Ok_for2 n (fun a g => (∀ q, 3 ≤ q → g q = σ q) ∧ ∃ (m : Nat) (ca cb : Nat → Nat), (m : Int) = sumI (fun a => cnt (fun b => crB W n a b) n) a ∧ g 0 0 = J m ∧ (∀ i, i < m → g 1 i = J (ca i) ∧ g 2 i = J (cb i) ∧ crB W n (ca i) (cb i) = true) ∧ ∀ a' b, a' < a → crB W n a' b = true → ∃ i, i < m ∧ ca i = a' ∧ cb i = b) (fun a g κ ha hi hκ => ?_) (fun g κ hi => ?_) 1000 0 _ (by omega) (by omega) ?_
  · obtain ⟨f0, m, ca, cb, f1, f2, f3, f4⟩ := hi
    unfold s_X0_layOut_7
    simp (disch := omega) only [h00, L1, J_add]
    rw [if_neg (by rw [jle (by omega) (by omega)]; omega), show ((a : Int) + 1) = ((a + 1 : Nat) : Int) from rfl]
    have hsa : sumI (fun a => cnt (fun b => crB W n a b) n) (a + 1) ≤ 24 := Int.le_trans (sumI_mono (fun k => cnt_nonneg _ _) (by omega)) htot
    rw [sumI_succ] at hsa
    refine Ok_for2 n (fun b g => (∀ q, 3 ≤ q → g q = σ q) ∧ a < b ∧ ∃ (m : Nat) (ca cb : Nat → Nat), (m : Int) = sumI (fun a => cnt (fun b => crB W n a b) n) a + cnt (fun b => crB W n a b) b ∧ g 0 0 = J m ∧ (∀ i, i < m → g 1 i = J (ca i) ∧ g 2 i = J (cb i) ∧ crB W n (ca i) (cb i) = true) ∧ ∀ a' b', (a' < a ∨ (a' = a ∧ b' < b)) → crB W n a' b' = true → ∃ i, i < m ∧ ca i = a' ∧ cb i = b') (fun b g κ' hb hj hκ' => ?_) (fun g κ' hj => ?_) 1000 (a + 1) _ (by omega) (by omega) ?_
    · obtain ⟨g0, gab, m, ca, cb, g1, g2, g3, g4⟩ := hj
      obtain ⟨x1, x2⟩ := hx a ha
      obtain ⟨y1, y2⟩ := hx b hb
      have ra := hr a ha
      have rb := hr b hb
      have adj := adj_iff h1 h2 gab (show b < 16 by omega)
      have hcm : cnt (fun b => crB W n a b) (b + 1) ≤ cnt (fun b => crB W n a b) n := cnt_mono _ (by omega)
      rw [cnt_succ] at hcm
      have hm24 : (m : Int) ≤ 24 := by
        have := cnt_nonneg (fun b => crB W n a b) n
        split at hcm <;> omega
      have ia : (J (a : Int)).toNatClampNeg = a := by rw [jcl (by omega)]; omega
      have ib : (J (b : Int)).toNatClampNeg = b := by rw [jcl (by omega)]; omega
      unfold s_X0_layOut_19
      simp (disch := omega) only [h00, L1, L0, L24, J_add, J_sub, chk_J, ia, ib, x1, x2, y1, y2, g2]
      rw [if_neg (by rw [jle (by omega) (by omega)]; omega)]
      generalize hA : ((a % W : Nat) : Int) = xa at *
      generalize hB : ((b % W : Nat) : Int) = xb at *
      generalize hC : ((a / W : Nat) : Int) = ya at *
      generalize hD : ((b / W : Nat) : Int) = yb at *
      have bx : 0 ≤ xa ∧ xa < 4 ∧ 0 ≤ xb ∧ xb < 4 ∧ 0 ≤ ya ∧ ya < 4 ∧ 0 ≤ yb ∧ yb < 4 := by
        rw [← hA, ← hB, ← hC, ← hD]
        generalize a % W = p1 at *
        generalize b % W = p2 at *
        generalize a / W = p3 at *
        generalize b / W = p4 at *
        omega
      simp (disch := omega) only [jle, ite_J, J_add, jeq, adj]
      have cmp : ((b = a + 1 ∧ a % W + 1 < W) ∨ b = a + W) ↔ crB W n a b = true := by
        rw [crB_iff]
        exact ⟨fun q => ⟨gab, hb, q⟩, fun q => q.2.2⟩
      simp only [cmp]
      have prev : ∀ a' b', (a' < a ∨ (a' = a ∧ b' < b + 1)) → (a' < a ∨ (a' = a ∧ b' < b)) ∨ (a' = a ∧ b' = b) := by omega
      by_cases q : crB W n a b = true
      · rw [if_pos q] at hcm
        have im : (J (m : Int)).toNatClampNeg = m := by rw [jcl (by omega)]; omega
        rw [if_pos q, if_neg (by omega)]
        simp (disch := omega) only [sgn, g2, chk_J, im]
        rw [J_add]
        refine hκ' _ ⟨fun q hq => by funext i; rw [sgn (by omega), sgn (by omega), sgn (by omega), g0 q hq], by omega, m + 1, fun i => if i = m then a else ca i, fun i => if i = m then b else cb i, ?_, ?_, fun i hi => ?_, fun a' b' hp hcr => ?_⟩
        · rw [cnt_succ, if_pos q]; omega
        · rw [sgs, if_pos rfl]; rfl
        · rw [sgn (by omega), sgn (by omega), sgs, sgn (by omega), sgs]
          dsimp only
          by_cases e : i = m
          · rw [if_pos e, if_pos e, if_pos e, if_pos e]; exact ⟨rfl, rfl, q⟩
          · rw [if_neg e, if_neg e, if_neg e, if_neg e, sgn (by omega)]; exact g3 i (by omega)
        · rcases prev a' b' hp with hp | ⟨hp1, hp2⟩
          · obtain ⟨i, hi, e1, e2⟩ := g4 a' b' hp hcr
            exact ⟨i, by omega, by dsimp only; rw [if_neg (by omega)]; exact e1, by dsimp only; rw [if_neg (by omega)]; exact e2⟩
          · exact ⟨m, by omega, by dsimp only; rw [if_pos rfl, hp1], by dsimp only; rw [if_pos rfl, hp2]⟩
      · rw [if_neg q]
        refine hκ' _ ⟨g0, by omega, m, ca, cb, ?_, g2, g3, fun a' b' hp hcr => ?_⟩
        · rw [cnt_succ, if_neg q]; omega
        · rcases prev a' b' hp with hp | ⟨hp1, hp2⟩
          · exact g4 a' b' hp hcr
          · subst hp1; subst hp2; exact absurd hcr q
    · obtain ⟨g0, gab, m, ca, cb, g1, g2, g3, g4⟩ := hj
      unfold s_X0_layOut_19
      simp (disch := omega) only [h00, L1, J_add]
      rw [if_pos (by rw [jle (by omega) (by omega)]; omega)]
      refine hκ _ ⟨g0, m, ca, cb, ?_, g2, g3, fun a' b ha' hcr => ?_⟩
      · rw [sumI_succ]; exact g1
      · refine g4 a' b ?_ hcr
        have := (crB_iff.mp hcr).2.1
        omega
    · refine ⟨f0, by omega, m, ca, cb, ?_, f2, f3, fun a' b' hp hcr => ?_⟩
      · rw [cnt_zero (n := a + 1) (fun c hc => by unfold crB; rw [decide_eq_false_iff_not]; omega), f1]; omega
      · rcases hp with hp | ⟨hp1, hp2⟩
        · exact f4 a' b' hp hcr
        · have := (crB_iff.mp hcr).1
          omega
  · obtain ⟨f0, m, ca, cb, f1, f2, f3, f4⟩ := hi
    unfold s_X0_layOut_7
    rw [h00, if_pos (by rw [jle (by omega) (by omega)]; omega), Ok_some]
    refine ⟨⟨m, ca, cb, f2, by omega, f3, fun a b hcr => f4 a b ?_ hcr⟩, f0⟩
    have := crB_iff.mp hcr
    omega
  · refine ⟨fun q hq => by funext i; rw [sgn (by omega)], 0, fun _ => 0, fun _ => 0, rfl, by rw [sgs, if_pos rfl], fun i hi => by omega, fun a' b ha' => by omega⟩
/-! bent, torn, found -/
def Vb (V : Nat → Nat → Int) (S : St) (k : Nat) (by_ : Int) : Nat → Nat → Int := fun a b => V a b + (if PT S a b k then by_ else 0)
def HV (V : Nat → Nat → Int) (m : Nat) (ca cb : Nat → Nat) (f : Nat → Int32) : Prop := ∀ i, i < m → f i = J (V (ca i) (cb i))
theorem cbend_ok {W n m : Nat} {ca cb : Nat → Nat} {S : St} {σ τ : Sg} (w : WF n S) (h : HP n S τ) (hc : HC W n m ca cb σ) {V : Nat → Nat → Int} (hv : HV V m ca cb (σ 3)) {k : Nat} (hk : k < 24) : Ok (f_X0_bend σ τ (J k)) (fun z => HV (Vb V S k 1) m ca cb (z 3) ∧ ∀ q, q ≠ 3 → z q = σ q) := by
  obtain ⟨c0, c1, c2, c3⟩ := hc
  unfold f_X0_bend
  rw [show (0 : Int32) = J ((0 : Nat) : Int) from by decide]
  refine Ok_for2 m (fun j g => (∀ q, q ≠ 3 → g q = σ q) ∧ ∀ i, i < m → g 3 i = J (if i < j then Vb V S k 1 (ca i) (cb i) else V (ca i) (cb i))) (fun j g κ hj hi hκ => ?_) (fun g κ hi => ?_) 1000 0 _ (by omega) (by omega) ⟨fun _ _ => rfl, fun i hi => by rw [if_neg (by omega)]; exact hv i hi⟩
  · obtain ⟨a1, a2⟩ := hi
    obtain ⟨d1, d2, d3⟩ := c2 j hj
    have d3 := crB_iff.mp d3
    have e0 : g 0 0 = J m := by rw [a1 0 (by omega)]; exact c0
    have e1 : g 1 j = J (ca j) := by rw [a1 1 (by omega)]; exact d1
    have e2 : g 2 j = J (cb j) := by rw [a1 2 (by omega)]; exact d2
    have e3 : g 3 j = J (V (ca j) (cb j)) := by rw [a2 j hj, if_neg (by omega)]
    have ij : (J (j : Int)).toNatClampNeg = j := by rw [jcl (by omega)]; omega
    have par := isParted_eq w h (show ca j < n by omega) (show cb j < n by omega) hk
    unfold s_X0_bend_2
    simp (disch := omega) only [L1, L0, J_add, chk_J, ij, e0, e1, e2, e3, par, Option.bind_some]
    rw [if_neg (by rw [jle (by omega) (by omega)]; omega)]
    cases hp : PT S (ca j) (cb j) k
    · have ez : J (if false = true then 1 else 0) = J 0 := rfl
      rw [if_pos ez]
      refine hκ _ ⟨a1, fun i hi => ?_⟩
      rw [a2 i hi]
      refine congrArg J ?_
      by_cases e : i = j
      · subst e
        rw [if_neg (by omega), if_pos (by omega)]
        unfold Vb; rw [hp]; simp
      · by_cases e' : i < j
        · rw [if_pos e', if_pos (by omega)]
        · rw [if_neg e', if_neg (by omega)]
    · have ez : ¬ J (if true = true then 1 else 0) = J 0 := by
        rw [if_pos rfl, jeq (by omega) (by omega)]; omega
      rw [if_neg ez]
      refine hκ _ ⟨fun q hq => by funext i; rw [sgn hq, a1 q hq], fun i hi => ?_⟩
      rw [sgs]
      by_cases e : i = j
      · subst e
        rw [if_pos rfl, if_pos (by omega)]
        unfold Vb; rw [hp]; rfl
      · rw [if_neg e, a2 i hi]
        refine congrArg J ?_
        by_cases e' : i < j
        · rw [if_pos e', if_pos (by omega)]
        · rw [if_neg e', if_neg (by omega)]
  · obtain ⟨a1, a2⟩ := hi
    have e0 : g 0 0 = J m := by rw [a1 0 (by omega)]; exact c0
    unfold s_X0_bend_2
    rw [e0, if_pos (by rw [jle (by omega) (by omega)]; omega), Ok_some]
    exact ⟨fun i hi => by rw [a2 i hi, if_pos hi], a1⟩
theorem tear_ok {W n m : Nat} {ca cb : Nat → Nat} {S : St} {σ τ : Sg} (w : WF n S) (h : HP n S τ) (hc : HC W n m ca cb σ) {V : Nat → Nat → Int} (hv : HV V m ca cb (σ 3)) (hV : ∀ a b, crB W n a b = true → 0 ≤ V a b ∧ V a b ≤ 20) {t : Int} (ht : 0 ≤ t ∧ t ≤ 20) {k : Nat} (hk : k < 24) : Ok (f_X0_wouldTear σ τ (J k) (J t)) (fun r => (r = J 0 ∧ ∀ a b, crB W n a b = true → PT S a b k = true → V a b < t) ∨ (r = J 1 ∧ ∃ a b, crB W n a b = true ∧ PT S a b k = true ∧ t ≤ V a b)) := by
  obtain ⟨c0, c1, c2, c3⟩ := hc
  unfold f_X0_wouldTear
  rw [show (0 : Int32) = J ((0 : Nat) : Int) from by decide]
  refine Ok_for1 m (fun j => ∀ i, i < j → PT S (ca i) (cb i) k = true → V (ca i) (cb i) < t) (fun j κ hj hi hκ => ?_) (fun κ hi => ?_) 1000 0 (by omega) (by omega) (fun i hi => by omega)
  · obtain ⟨d1, d2, d3⟩ := c2 j hj
    have vj := hV _ _ d3
    have d3' := crB_iff.mp d3
    have e3 := hv j hj
    have ij : (J (j : Int)).toNatClampNeg = j := by rw [jcl (by omega)]; omega
    have par := isParted_eq w h (show ca j < n by omega) (show cb j < n by omega) hk
    have nx : (PT S (ca j) (cb j) k = true → V (ca j) (cb j) < t) → ∀ i, i < j + 1 → PT S (ca i) (cb i) k = true → V (ca i) (cb i) < t := by
      intro hx i hlt
      by_cases e : i = j
      · subst e; exact hx
      · exact hi i (by omega)
    unfold s_X0_wouldTear_3
    simp (disch := omega) only [L1, L0, J_add, chk_J, ij, c0, d1, d2, e3, par, Option.bind_some, jlt]
    rw [if_neg (by rw [jle (by omega) (by omega)]; omega)]
    by_cases q : V (ca j) (cb j) < t
    · rw [if_pos q]; exact hκ (nx (fun _ => q))
    · rw [if_neg q]
      cases hp : PT S (ca j) (cb j) k
      · have ez : J (if false = true then 1 else 0) = J 0 := rfl
        rw [if_pos ez]
        exact hκ (nx (fun g => by rw [hp] at g; cases g))
      · have ez : ¬ J (if true = true then 1 else 0) = J 0 := by
          rw [if_pos rfl, jeq (by omega) (by omega)]; omega
        rw [if_neg ez, Ok_some]
        exact Or.inr ⟨rfl, ca j, cb j, d3, hp, by omega⟩
  · unfold s_X0_wouldTear_3
    rw [c0, if_pos (by rw [jle (by omega) (by omega)]; omega), Ok_some, L0]
    refine Or.inl ⟨rfl, fun a b hcr hp => ?_⟩
    obtain ⟨i, hi', e1, e2⟩ := c3 a b hcr
    subst e1; subst e2
    exact hi i hi' hp
theorem find_ok {W n m : Nat} {ca cb : Nat → Nat} {σ : Sg} (hn : n ≤ 16) (hc : HC W n m ca cb σ) {a b : Int} (ha : -2147483648 ≤ a ∧ a ≤ 2147483647) (hb : -2147483648 ≤ b ∧ b ≤ 2147483647) : Ok (f_X0_find σ (J a) (J b)) (fun r => (∃ i, i < m ∧ r = J i ∧ ((a = ca i ∧ b = cb i) ∨ (b = ca i ∧ a = cb i))) ∨ (r = J (-9) ∧ ∀ i, i < m → ¬ ((a = ca i ∧ b = cb i) ∨ (b = ca i ∧ a = cb i)))) := by
  obtain ⟨c0, c1, c2, c3⟩ := hc
  unfold f_X0_find
  rw [show (0 : Int32) = J ((0 : Nat) : Int) from by decide]
  refine Ok_for1 m (fun j => ∀ i, i < j → ¬ ((a = ca i ∧ b = cb i) ∨ (b = ca i ∧ a = cb i))) (fun j κ hj hi hκ => ?_) (fun κ hi => ?_) 1000 0 (by omega) (by omega) (fun i hi => by omega)
  · obtain ⟨d1, d2, d3⟩ := c2 j hj
    have d3' := crB_iff.mp d3
    have ij : (J (j : Int)).toNatClampNeg = j := by rw [jcl (by omega)]; omega
    have nx : ¬ ((a = ca j ∧ b = cb j) ∨ (b = ca j ∧ a = cb j)) → ∀ i, i < j + 1 → ¬ ((a = ca i ∧ b = cb i) ∨ (b = ca i ∧ a = cb i)) := by
      intro hx i hlt
      by_cases e : i = j
      · subst e; exact hx
      · exact hi i (by omega)
    unfold s_X0_find_16
    simp (disch := omega) only [L1, J_add, chk_J, ij, c0, d1, d2, jlt, ite_J, jeq]
    rw [if_neg (by rw [jle (by omega) (by omega)]; omega)]
    by_cases q : (a = ca j ∧ b = cb j) ∨ (b = ca j ∧ a = cb j)
    · rw [if_pos (by omega), if_pos (by omega), Ok_some]
      exact Or.inl ⟨j, hj, rfl, q⟩
    · by_cases q1 : ((ca j : Nat) : Int) = (if b < a then b else a)
      · rw [if_pos q1]
        by_cases q2 : ((cb j : Nat) : Int) = (if a < b then b else a)
        · exfalso; omega
        · rw [if_neg q2]; exact hκ (nx q)
      · rw [if_neg q1]; exact hκ (nx q)
  · unfold s_X0_find_16
    rw [c0, if_pos (by rw [jle (by omega) (by omega)]; omega), Ok_some, L9, J_neg]
    exact Or.inr ⟨rfl, hi⟩
