/-! ===== the reference: all creases bent ===== -/
def pb (W c way : Nat) : Nat := if way = 0 then c + 1 else c + W
def ex (W n c way : Nat) : Bool := if way = 0 then decide (c % W + 1 < W) else decide (c + W < n)
theorem nb_ex {W n c way : Nat} : nb W n c way = if ex W n c way then ((pb W c way : Nat) : Int) else -9 := by
  unfold nb ex pb
  by_cases q : way = 0
  · rw [if_pos q, if_pos q, if_pos q]
    by_cases q2 : c % W + 1 < W
    · rw [if_pos q2, if_pos (by simp [q2])]; rfl
    · rw [if_neg q2, if_neg (by simp [q2])]
  · rw [if_neg q, if_neg q, if_neg q]
    by_cases q2 : c + W < n
    · rw [if_pos q2, if_pos (by simp [q2])]; rfl
    · rw [if_neg q2, if_neg (by simp [q2])]
theorem ex_cr {W H c way : Nat} (h1 : 1 ≤ W) (hc : c < W * H) (he : ex W (W * H) c way = true) : crB W (W * H) c (pb W c way) = true := by
  rw [crB_iff]
  unfold ex at he
  unfold pb
  by_cases q : way = 0
  · rw [if_pos q] at he ⊢
    have he := of_decide_eq_true he
    refine ⟨by omega, ?_, Or.inl ⟨rfl, he⟩⟩
    have d1 := Nat.div_add_mod c W
    have d2 := Nat.div_lt_of_lt_mul hc
    have d3 : W * (c / W + 1) ≤ W * H := Nat.mul_le_mul (Nat.le_refl W) d2
    rw [Nat.mul_add, Nat.mul_one] at d3
    generalize W * (c / W) = x at *
    generalize c % W = y at *
    omega
  · rw [if_neg q] at he ⊢
    have he := of_decide_eq_true he
    exact ⟨by omega, he, Or.inr rfl⟩
theorem cr_ex {W n a b : Nat} (h : crB W n a b = true) : ∃ way, way < 2 ∧ ex W n a way = true ∧ pb W a way = b := by
  obtain ⟨h1, h2, h3⟩ := crB_iff.mp h
  rcases h3 with ⟨e, h3⟩ | e
  · exact ⟨0, by omega, by unfold ex; rw [if_pos rfl]; exact decide_eq_true h3, by unfold pb; rw [if_pos rfl, e]⟩
  · exact ⟨1, by omega, by unfold ex; rw [if_neg (by omega)]; exact decide_eq_true (by omega), by unfold pb; rw [if_neg (by omega), e]⟩
/-- how often creases are bent, as the reference has it -/
def RBp (V : Nat → Nat → Int) (W n q o : Nat) (μ : Sg) : Prop := ∀ c way, c < n → way < 2 → ex W n c way = true → μ q (o + 8 + 16 * way + c) = J (V c (pb W c way))
def BAI (V : Nat → Nat → Int) (W n : Nat) (S : St) (k : Nat) (by_ : Int) (μ : Sg) (j : Nat) (x : Int32) (g : Sg) : Prop :=
  (∀ q, q ≠ 4 → g q = μ q) ∧ (∀ i, i < 8 → g 4 i = μ 4 i) ∧ (∀ c way, c < n → way < 2 → ex W n c way = true → g 4 (8 + 16 * way + c) = J (if 2 * c + way < j then Vb V S k by_ c (pb W c way) else V c (pb W c way))) ∧
  ∃ t : Int, x = J t ∧ (0 ≤ t ∧ t ≤ 50) ∧ (∀ c way, c < n → way < 2 → ex W n c way = true → 2 * c + way < j → PT S c (pb W c way) k = true → Vb V S k by_ c (pb W c way) ≤ t) ∧ (t = 0 ∨ ∃ c way, c < n ∧ way < 2 ∧ ex W n c way = true ∧ PT S c (pb W c way) k = true ∧ Vb V S k by_ c (pb W c way) = t)
theorem bendsAll_ok {W H : Nat} {S : St} {μ : Sg} {tr : Int64} (h1 : 1 ≤ W) (h2 : W ≤ 4) (hn : W * H ≤ 16) (w : WF (W * H) S) (ht : TD W H μ) (h : H9 (W * H) S 0 μ) {V : Nat → Nat → Int} (hv : RBp V W (W * H) 4 0 μ) (hV : ∀ a b, crB W (W * H) a b = true → 0 ≤ V a b ∧ V a b ≤ 20) {k : Nat} (hk : k < 24) {by_ : Int} (hby : by_ = 1 ∨ by_ = -1) :
    Ok (f_X9_bendsAll μ tr (J k) (J by_)) (fun z => (∀ q, q ≠ 4 → z.2 q = μ q) ∧ (∀ i, i < 8 → z.2 4 i = μ 4 i) ∧ RBp (Vb V S k by_) W (W * H) 4 0 z.2 ∧ ∃ t : Int, z.1 = J t ∧ (0 ≤ t ∧ t ≤ 50) ∧ (∀ a b, crB W (W * H) a b = true → PT S a b k = true → Vb V S k by_ a b ≤ t) ∧ (t = 0 ∨ ∃ a b, crB W (W * H) a b = true ∧ PT S a b k = true ∧ Vb V S k by_ a b = t)) := by
  have exr : ∀ c way, c < W * H → ex W (W * H) c way = true → crB W (W * H) c (pb W c way) = true := fun c way hc he => ex_cr h1 hc he
  have hl := kln_bd hk
  unfold f_X9_bendsAll
  rw [show (0 : Int32) = J ((0 : Nat) : Int) from by decide]
  refine Ok_for3 (W * H) (fun c x g => BAI V W (W * H) S k by_ μ (2 * c) x g) (fun c x g κ hc hi hκ => ?_) (fun x g κ hi => ?_) 1000 0 _ _ (by omega) (by omega) ⟨fun _ _ => rfl, fun _ _ => rfl, fun c way hc hw he => ?_, 0, rfl, by omega, fun c way _ _ _ q => by omega, Or.inl rfl⟩
  · have htg := ht.cong (hi.1 2 (by omega))
    unfold s_X9_bendsAll_5
    rw [cells_eq htg, Option.bind_some, if_neg (by rw [jle (by omega) (by omega)]; omega), show (0 : Int32) = J ((0 : Nat) : Int) from by decide]
    refine Ok_for3 2 (fun way x g => BAI V W (W * H) S k by_ μ (2 * c + way) x g) (fun way x g κ' hw hj hκ' => ?_) (fun x g κ' hj => ?_) 1000 0 _ _ (by omega) (by omega) hi
    · obtain ⟨a1, a2, a3, t, hx, ht0, a4, a5⟩ := hj
      subst hx
      have htg := ht.cong (a1 2 (by omega))
      have hg9 : H9 (W * H) S 0 g := h.cong hn (fun i _ => by rw [a1 9 (by omega)]) (fun i _ => by rw [a1 10 (by omega)])
      have nbq := nbr_eq (tr := tr) h1 h2 hn htg hc hw
      rw [nb_ex] at nbq
      have lt1 : ∀ c' way', way' < 2 → 2 * c' + way' < 2 * c + (way + 1) → 2 * c' + way' < 2 * c + way ∨ (c' = c ∧ way' = way) := by omega
      have key : Ok (j_X9_bendsAll_1 tr (J k) (J by_) (J c) (J t) (J way) g κ' (J (if ex W (W * H) c way then ((pb W c way : Nat) : Int) else -9)) (J ((8 + 16 * way : Nat) : Int))) (fun z => (∀ q, q ≠ 4 → z.2 q = μ q) ∧ (∀ i, i < 8 → z.2 4 i = μ 4 i) ∧ RBp (Vb V S k by_) W (W * H) 4 0 z.2 ∧ ∃ t : Int, z.1 = J t ∧ (0 ≤ t ∧ t ≤ 50) ∧ (∀ a b, crB W (W * H) a b = true → PT S a b k = true → Vb V S k by_ a b ≤ t) ∧ (t = 0 ∨ ∃ a b, crB W (W * H) a b = true ∧ PT S a b k = true ∧ Vb V S k by_ a b = t)) := by
        cases he : ex W (W * H) c way
        · -- no such crease
          unfold j_X9_bendsAll_1
          have e9 : J (if false = true then ((pb W c way : Nat) : Int) else -9) = -9 := by
            rw [if_neg (by simp)]; decide +kernel
          rw [e9, if_pos rfl, L1, J_add]
          refine hκ' _ _ ⟨a1, a2, fun c' way' hc' hw' he' => ?_, t, rfl, ht0, fun c' way' hc' hw' he' hlt hp => ?_, a5⟩
          · rw [a3 c' way' hc' hw' he']
            refine congrArg J ?_
            by_cases q : 2 * c' + way' < 2 * c + way
            · rw [if_pos q, if_pos (by omega)]
            · rw [if_neg q, if_neg]
              intro q2
              rcases lt1 c' way' hw' q2 with q3 | ⟨q3, q4⟩
              · exact q q3
              · subst q3; subst q4; rw [he] at he'; cases he'
          · rcases lt1 c' way' hw' hlt with q3 | ⟨q3, q4⟩
            · exact a4 c' way' hc' hw' he' q3 hp
            · subst q3; subst q4; rw [he] at he'; cases he'
        · have hcr := exr c way hc he
          obtain ⟨r1, r2, -⟩ := crB_iff.mp hcr
          have vv := hV _ _ hcr
          have bq := bends_eq (tr := tr) w hg9 hc r2 hk
          have e9 : ¬ J (if true = true then ((pb W c way : Nat) : Int) else -9) = -9 := by
            rw [if_pos rfl, show (-9 : Int32) = J (-9) from by decide +kernel, jeq (by omega) (by omega)]; omega
          have ip : (J (((8 + 16 * way : Nat) : Int) + c)).toNatClampNeg = 8 + 16 * way + c := by rw [jcl (by omega)]; omega
          have av := a3 c way hc hw he
          rw [if_neg (by omega)] at av
          unfold j_X9_bendsAll_1
          rw [if_neg e9, if_pos rfl]
          simp (disch := omega) only [L1, L8, L0, cd_ax hk, cd_dv hk, bq, Option.bind_some, J_add, chk_J, ip, av, sgs, if_true]
          cases hp : PT S c (pb W c way) k
          · have ez : J (if false = true then 1 else 0) = J 0 := rfl
            rw [if_pos ez]
            refine hκ' _ _ ⟨a1, a2, fun c' way' hc' hw' he' => ?_, t, rfl, ht0, fun c' way' hc' hw' he' hlt hp' => ?_, a5⟩
            · rw [a3 c' way' hc' hw' he']
              refine congrArg J ?_
              by_cases q : 2 * c' + way' < 2 * c + way
              · rw [if_pos q, if_pos (by omega)]
              · rw [if_neg q]
                by_cases q2 : 2 * c' + way' < 2 * c + (way + 1)
                · rw [if_pos q2]
                  rcases lt1 c' way' hw' q2 with q3 | ⟨q3, q4⟩
                  · exact absurd q3 q
                  · subst q3; subst q4; unfold Vb; rw [hp]; simp
                · rw [if_neg q2]
            · rcases lt1 c' way' hw' hlt with q3 | ⟨q3, q4⟩
              · exact a4 c' way' hc' hw' he' q3 hp'
              · subst q3; subst q4; rw [hp] at hp'; cases hp'
          · have ez : ¬ J (if true = true then 1 else 0) = J 0 := by
              rw [if_pos rfl, jeq (by omega) (by omega)]; omega
            rw [if_neg ez]
            have hvb : Vb V S k by_ c (pb W c way) = V c (pb W c way) + by_ := by unfold Vb; rw [hp]; rfl
            have nx : ∀ t' : Int, (0 ≤ t' ∧ t' ≤ 50) → t ≤ t' → V c (pb W c way) + by_ ≤ t' → (t' = t ∨ t' = V c (pb W c way) + by_) → Ok (κ' (J t') (J ((way : Int) + 1)) (sg_st g 4 (8 + 16 * way + c) (J (V c (pb W c way) + by_)))) (fun z => (∀ q, q ≠ 4 → z.2 q = μ q) ∧ (∀ i, i < 8 → z.2 4 i = μ 4 i) ∧ RBp (Vb V S k by_) W (W * H) 4 0 z.2 ∧ ∃ t : Int, z.1 = J t ∧ (0 ≤ t ∧ t ≤ 50) ∧ (∀ a b, crB W (W * H) a b = true → PT S a b k = true → Vb V S k by_ a b ≤ t) ∧ (t = 0 ∨ ∃ a b, crB W (W * H) a b = true ∧ PT S a b k = true ∧ Vb V S k by_ a b = t)) := by
              intro t' b1 b2 b3 b4
              refine hκ' _ _ ⟨fun q hq => by funext i; rw [sgn hq, a1 q hq], fun i hi => by rw [sgs, if_neg (by omega), a2 i hi], fun c' way' hc' hw' he' => ?_, t', rfl, b1, fun c' way' hc' hw' he' hlt hp' => ?_, ?_⟩
              · rw [sgs]
                by_cases e : c' = c ∧ way' = way
                · rw [if_pos (by omega), if_pos (by omega), e.1, e.2, hvb]
                · rw [if_neg (by omega), a3 c' way' hc' hw' he']
                  refine congrArg J ?_
                  by_cases q : 2 * c' + way' < 2 * c + way
                  · rw [if_pos q, if_pos (by omega)]
                  · rw [if_neg q, if_neg (fun q2 => by rcases lt1 c' way' hw' q2 with q3 | q3 <;> omega)]
              · rcases lt1 c' way' hw' hlt with q3 | ⟨q3, q4⟩
                · have := a4 c' way' hc' hw' he' q3 hp'; omega
                · subst q3; subst q4; rw [hvb]; exact b3
              · rcases b4 with b4 | b4
                · rw [b4]; exact a5
                · exact Or.inr ⟨c, way, hc, hw, he, hp, by rw [hvb, b4]⟩
            by_cases q : V c (pb W c way) + by_ ≤ t
            · rw [if_pos ((jle (by omega) (by omega)).mpr q)]
              exact nx t ht0 (Int.le_refl _) q (Or.inl rfl)
            · rw [if_neg (fun g => q ((jle (by omega) (by omega)).mp g))]
              exact nx _ (by omega) (by omega) (Int.le_refl _) (Or.inr rfl)
      unfold s_X9_bendsAll_17
      rw [if_neg (by rw [L2, jle (by omega) (by omega)]; omega), nbq, Option.bind_some]
      rcases (show way = 0 ∨ way = 1 by omega) with e | e
      · subst e
        rw [if_pos (by decide)]
        exact key
      · subst e
        rw [if_neg (by decide +kernel)]
        exact key
    · unfold s_X9_bendsAll_17
      rw [if_pos (by decide +kernel), L1, J_add]
      exact hκ _ _ hj
  · obtain ⟨a1, a2, a3, t, hx, ht0, a4, a5⟩ := hi
    have htg := ht.cong (a1 2 (by omega))
    unfold s_X9_bendsAll_5
    rw [cells_eq htg, Option.bind_some, if_pos (by rw [jle (by omega) (by omega)]; omega), Ok_some]
    refine ⟨a1, a2, fun c way hc hw he => ?_, t, hx, ht0, fun a b hcr hp => ?_, ?_⟩
    · dsimp only
      rw [Nat.zero_add, a3 c way hc hw he, if_pos (by omega)]
    · obtain ⟨way, hw, he, e⟩ := cr_ex hcr
      obtain ⟨r1, r2, -⟩ := crB_iff.mp hcr
      subst e
      exact a4 a way (by omega) hw he (by omega) hp
    · rcases a5 with a5 | ⟨c, way, hc, hw, he, hp, e⟩
      · exact Or.inl a5
      · exact Or.inr ⟨c, _, exr c way hc he, hp, e⟩
  · have := hv c way hc hw he
    rw [Nat.zero_add] at this
    rw [this, if_neg (by omega)]
/-! who is a cell -/
theorem in_eq {a lo hi : Int} (ha : -2147483648 ≤ a ∧ a ≤ 2147483647) (hl : -2147483648 ≤ lo ∧ lo ≤ 2147483647) (hh : -2147483648 ≤ hi ∧ hi ≤ 2147483647) : f_X9_in (J a) (J lo) (J hi) = some (J (if lo ≤ a ∧ a ≤ hi then 1 else 0)) := by
  unfold f_X9_in
  simp (disch := omega) only [jlt, L0, L1]
  by_cases q1 : a < lo
  · rw [if_pos q1, if_neg (by omega)]
  · rw [if_neg q1]
    by_cases q2 : hi < a
    · rw [if_pos q2, if_neg (by omega)]
    · rw [if_neg q2, if_pos (by omega)]
theorem isCell9_eq {W H : Nat} {μ : Sg} {tr : Int64} (ht : TD W H μ) (hn : W * H ≤ 16) {a : Int} (ha : -2147483648 ≤ a ∧ a ≤ 2147483647) : f_X9_isCell μ tr (J a) = some (J (if 0 ≤ a ∧ a < ((W * H : Nat) : Int) then 1 else 0)) := by
  unfold f_X9_isCell
  rw [cells_eq ht, Option.bind_some, L0, L1, J_sub, in_eq ha (by omega) (by omega), Option.bind_some]
  generalize W * H = n at *
  by_cases q : 0 ≤ a ∧ a < (n : Int)
  · rw [if_pos q, if_pos (by omega), cbl1]
  · rw [if_neg q, if_neg (by omega), cbl0]
theorem areTwo9_eq {W H : Nat} {μ : Sg} {tr : Int64} (ht : TD W H μ) (hn : W * H ≤ 16) {a b : Int} (ha : -2147483648 ≤ a ∧ a ≤ 2147483647) (hb : -2147483648 ≤ b ∧ b ≤ 2147483647) : f_X9_areTwo μ tr (J a) (J b) = some (J (if (0 ≤ a ∧ a < ((W * H : Nat) : Int)) ∧ (0 ≤ b ∧ b < ((W * H : Nat) : Int)) ∧ ¬ a = b then 1 else 0)) := by
  unfold f_X9_areTwo
  rw [isCell9_eq ht hn ha, isCell9_eq ht hn hb]
  generalize W * H = n at *
  simp (disch := omega) only [L0, L1, Option.bind_some, jeq]
  by_cases q1 : 0 ≤ a ∧ a < (n : Int)
  · rw [if_pos q1, if_neg (by omega)]
    by_cases q2 : 0 ≤ b ∧ b < (n : Int)
    · rw [if_pos q2, if_neg (by omega)]
      by_cases q3 : a = b
      · rw [if_pos q3, if_neg (by omega)]
      · rw [if_neg q3, if_pos ⟨q1, q2, q3⟩]
    · rw [if_neg q2, if_pos rfl, if_neg (fun g => q2 g.2.1)]
  · rw [if_neg q1, if_pos rfl, if_neg (fun g => q1 g.1)]
theorem isCell8_eq {n : Nat} {S : St} {σ : Sg} {tr : Int64} (h : HP n S (sg_off σ 20)) (hn : n ≤ 16) {a : Int} (ha : -2147483648 ≤ a ∧ a ≤ 2147483647) : f_X8_isCell σ tr (J a) = some (J (if 0 ≤ a ∧ a < (n : Int) then 1 else 0)) := by
  have h0 : σ 20 0 = J n := h.1
  unfold f_X8_isCell
  simp (disch := omega) only [h0, jlt, jle, L0, L1]
  by_cases q1 : a < 0
  · rw [if_pos q1, if_neg (by omega)]
  · rw [if_neg q1]
    by_cases q2 : (n : Int) ≤ a
    · rw [if_pos q2, if_neg (by omega)]
    · rw [if_neg q2, if_pos (by omega)]
theorem areTwo8_eq {n : Nat} {S : St} {σ : Sg} {tr : Int64} (h : HP n S (sg_off σ 20)) (hn : n ≤ 16) {a b : Int} (ha : -2147483648 ≤ a ∧ a ≤ 2147483647) (hb : -2147483648 ≤ b ∧ b ≤ 2147483647) : f_X8_areTwoCells σ tr (J a) (J b) = some (J (if (0 ≤ a ∧ a < (n : Int)) ∧ (0 ≤ b ∧ b < (n : Int)) ∧ ¬ a = b then 1 else 0)) := by
  unfold f_X8_areTwoCells
  rw [isCell8_eq h hn ha, isCell8_eq h hn hb]
  simp (disch := omega) only [L0, L1, Option.bind_some, jeq]
  by_cases q1 : 0 ≤ a ∧ a < (n : Int)
  · rw [if_pos q1, if_neg (by omega)]
    by_cases q2 : 0 ≤ b ∧ b < (n : Int)
    · rw [if_pos q2, if_neg (by omega)]
      by_cases q3 : a = b
      · rw [if_pos q3, if_neg (by omega)]
      · rw [if_neg q3, if_pos ⟨q1, q2, q3⟩]
    · rw [if_neg q2, if_pos rfl, if_neg (fun g => q2 g.2.1)]
  · rw [if_neg q1, if_pos rfl, if_neg (fun g => q1 g.1)]
