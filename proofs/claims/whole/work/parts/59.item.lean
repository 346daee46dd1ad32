/-! ===== items, as the class takes them ===== -/
def CTx (T : Nat → Int) (len p : Nat) (g : Sg) : Prop := HT7 T len (sg_off g 1) ∧ g 1 3 = J p
def CDr (W H : Nat) (te : Int) (wt : Nat → Int) (mq : Nat) (qa qb : Nat → Nat) (it tn : Nat) (g : Sg) : Prop := g 3 0 = J W ∧ g 3 1 = J H ∧ g 3 2 = J te ∧ (∀ i, i < 16 → g 4 i = J (wt i)) ∧ g 5 0 = J mq ∧ (∀ i, i < mq → g 6 i = J (qa i) ∧ g 7 i = J (qb i)) ∧ g 0 2 = J it ∧ g 0 7 = J tn
def TOK (T : Nat → Int) (len p : Nat) (g g1 : Sg) : Prop := (∀ q, q ≠ 1 → g1 q = g q) ∧ (∀ i, i ≠ 2 → i ≠ 3 → i ≠ 4 → i ≠ 5 → g1 1 i = g 1 i) ∧ g1 1 2 = J (tS T len p) ∧ g1 1 3 = J (tE T len p) ∧ g1 1 4 = J (tT T len p) ∧ (tT T len p = 2 → g1 1 5 = J (tV T len p))
theorem TOK.tx {T : Nat → Int} {len p : Nat} {g g1 : Sg} (h : TOK T len p g g1) (hx : CTx T len p g) : CTx T len (tE T len p) g1 := by
  obtain ⟨⟨a1, a2, a3⟩, -⟩ := hx
  refine ⟨⟨a1, ?_, fun j hj => ?_⟩, h.2.2.2.1⟩
  · show g1 1 0 = J len
    rw [h.2.1 0 (by omega) (by omega) (by omega) (by omega)]; exact a2
  · show g1 2 j = J (T j) ∧ _
    rw [h.1 2 (by omega)]; exact a3 j hj
theorem TOK.dr {T : Nat → Int} {len p : Nat} {g g1 : Sg} (h : TOK T len p g g1) {W H : Nat} {te : Int} {wt : Nat → Int} {mq : Nat} {qa qb : Nat → Nat} {it tn : Nat} (hd : CDr W H te wt mq qa qb it tn g) : CDr W H te wt mq qa qb it tn g1 := by
  unfold CDr
  rw [h.1 0 (by omega), h.1 3 (by omega), h.1 4 (by omega), h.1 5 (by omega), h.1 6 (by omega), h.1 7 (by omega)]
  exact hd
theorem tT_le (T : Nat → Int) (len p : Nat) : tT T len p ≤ 7 := by unfold tT wT; (repeat' split) <;> omega
theorem tT_0 {T : Nat → Int} {len p : Nat} : tT T len p = 0 ↔ tK T len p = 0 := by
  unfold tT wT
  constructor
  · intro h; (repeat' split at h) <;> omega
  · intro h; rw [if_pos h]
theorem cls_iter {T : Nat → Int} {len p i F : Nat} {g : Sg} (hx : CTx T len p g) (hp : p ≤ len) (hi : i ≤ 200) {P : Int32 × Sg → Prop}
    (h : ∀ g1, TOK T len p g g1 → (tT T len p = 0 → Ok (j_X6_readAll_1 g1) P) ∧ (¬ tT T len p = 0 → Ok ((f_X6_takesToken g1).bind fun z12 => if z12.1 = 0 then some (0, z12.2) else lc2 (s_X6_readAll_31 j_X6_readAll_1) F (J ((i : Int) + 1)) z12.2) P)) :
    Ok (lc2 (s_X6_readAll_31 j_X6_readAll_1) (F + 1) (J i) g) P := by
  rw [lc2_u]
  unfold s_X6_readAll_31
  rw [if_neg (by rw [L200, jlt (by omega) (by omega)]; omega), Ok_bind]
  refine (token7_ok hx.1 hp hx.2).mono (fun z hz => ?_)
  obtain ⟨z1, z2, z3, z4, z5, z6⟩ := hz
  have tk : TOK T len p g (sg_sp g 1 2 z) := by
    refine ⟨fun q hq => ?_, fun i a b c d => ?_, ?_, ?_, ?_, fun q => ?_⟩
    · funext i
      by_cases e : q = 2
      · subst e; rw [sps (by omega), z1 (2 - 1) (by omega)]; rfl
      · rw [spn (by omega)]
    · rw [sps (by omega)]; exact z2 i a b c d
    · rw [sps (by omega)]; exact z3
    · rw [sps (by omega)]; exact z4
    · rw [sps (by omega)]; exact z5
    · rw [sps (by omega)]; exact z6 q
  have t7 := tT_le T len p
  obtain ⟨h1, h2⟩ := h _ tk
  rw [tk.2.2.2.2.1, L1, J_add]
  by_cases q : tT T len p = 0
  · rw [if_pos (by rw [q]; decide +kernel)]; exact h1 q
  · rw [if_neg (by rw [L0, jeq (by omega) (by omega)]; omega)]; exact h2 q
theorem full_eq {σ : Sg} {mq : Nat} (h : σ 0 0 = J mq) (hm : mq ≤ 6) : f_X4_isFull σ = some (J (if mq < 6 then 0 else 1)) := by
  unfold f_X4_isFull
  rw [h]
  simp (disch := omega) only [L6, jlt, L0, L1]
  by_cases q : mq < 6
  · rw [if_pos (by omega), if_pos q]
  · rw [if_neg (by omega), if_neg q]
/-- a word is taken -/
theorem tkW {g : Sg} {t it tn mq : Nat} (ht : t ≤ 7) (hit : it ≤ 300) (htn : tn ≤ 1) (hmq : mq ≤ 6) (h03 : g 0 3 = J 0) (h14 : g 1 4 = J t) (h02 : g 0 2 = J it) (h07 : g 0 7 = J tn) (h50 : g 5 0 = J mq) :
    f_X6_takesToken g = some (if (t = 4 ∧ it = 0) ∨ t = 5 ∨ (t = 6 ∧ mq < 6) ∨ (t = 7 ∧ tn = 0) then (J 1, sg_st (sg_st g 0 3 (J t)) 0 4 (J 0)) else (J 0, g)) := by
  have may : f_X6_mayBegin g (J t) = some (J (if (t = 4 ∧ it = 0) ∨ t = 5 ∨ (t = 6 ∧ mq < 6) ∨ (t = 7 ∧ tn = 0) then 1 else 0)) := by
    unfold f_X6_mayBegin
    rw [full_eq (σ := sg_off g 5) h50 hmq, Option.bind_some, h02, h07]
    simp (disch := omega) only [L4, L5, L6, L7, L0, L1, jeq]
    (repeat' split) <;> first | rfl | (exfalso; omega)
  unfold f_X6_takesToken f_X6_takesWord
  rw [h03, if_pos (by decide +kernel), h14, may, Option.bind_some]
  by_cases q : (t = 4 ∧ it = 0) ∨ t = 5 ∨ (t = 6 ∧ mq < 6) ∨ (t = 7 ∧ tn = 0)
  · rw [if_pos q, if_pos q, if_neg (by decide +kernel), Option.bind_some, L1, cbl1, L0]
  · rw [if_neg q, if_neg q, if_pos (by decide +kernel), Option.bind_some, L0, cbl0]
def loN (item : Nat) : Int := if item = 4 ∨ item = 7 then 1 else 0
def hiN (W H item td : Nat) : Int := if item = 4 then 4 else if item = 6 ∨ (item = 5 ∧ td = 0) then ((W * H : Nat) : Int) - 1 else 9
/-- a number is taken -/
theorem tkN {g : Sg} {item td t W H : Nat} {v fi : Int} (hit : ((item = 4 ∨ item = 5 ∨ item = 6) ∧ td < 2) ∨ (item = 7 ∧ td = 0)) (ht : t ≤ 7) (h03 : g 0 3 = J item) (h04 : g 0 4 = J td) (h14 : g 1 4 = J t) (hv : t = 2 → g 1 5 = J v ∧ 0 ≤ v ∧ v ≤ 99) (hfi : td = 1 → g 0 5 = J fi ∧ 0 ≤ fi ∧ fi ≤ 99) (hW : W ≤ 4) (hH : H ≤ 4) (h30 : g 3 0 = J W) (h31 : g 3 1 = J H) :
    f_X6_takesToken g = some (if t = 2 ∧ loN item ≤ v ∧ v ≤ hiN W H item td ∧ ¬ (item = 6 ∧ td = 1 ∧ v = fi) then (J 1, sg_st (sg_st g 0 (5 + td) (J v)) 0 4 (J ((td + 1 : Nat) : Int))) else (J 0, g)) := by
  have hWH : W * H ≤ 16 := Nat.mul_le_mul hW hH
  have most : f_X6_mostNumber g = some (J (hiN W H item td)) := by
    unfold f_X6_mostNumber j_X6_mostNumber_1 hiN
    rw [h03, h04, h30, h31, L1, J_mul, J_sub, ← Int.natCast_mul]
    generalize W * H = n at *
    simp (disch := omega) only [L4, L5, L6, L0, L9, jeq, if_true]
    (repeat' split) <;> first | rfl | (exfalso; omega)
  have hib : -1 ≤ hiN W H item td ∧ hiN W H item td ≤ 15 := by
    unfold hiN
    generalize W * H = n at *
    (repeat' split) <;> omega
  have key : f_X6_takesNumber g = some (if t = 2 ∧ loN item ≤ v ∧ v ≤ hiN W H item td ∧ ¬ (item = 6 ∧ td = 1 ∧ v = fi) then (J 1, sg_st (sg_st g 0 (5 + td) (J v)) 0 4 (J ((td + 1 : Nat) : Int))) else (J 0, g)) := by
    have j1 : j_X6_takesNumber_1 g (J (loN item)) = some (if t = 2 ∧ loN item ≤ v ∧ v ≤ hiN W H item td ∧ ¬ (item = 6 ∧ td = 1 ∧ v = fi) then (J 1, sg_st (sg_st g 0 (5 + td) (J v)) 0 4 (J ((td + 1 : Nat) : Int))) else (J 0, g)) := by
      have lob : 0 ≤ loN item ∧ loN item ≤ 1 := by unfold loN; split <;> omega
      unfold j_X6_takesNumber_1
      rw [h14]
      by_cases q2 : t = 2
      · obtain ⟨v1, v2, v3⟩ := hv q2
        rw [if_pos (by rw [q2]; decide +kernel), v1, most, Option.bind_some]
        simp (disch := omega) only [jlt, jle]
        by_cases q3 : v < loN item
        · rw [if_pos q3, if_neg (by omega), L0]
        · rw [if_neg q3]
          by_cases q4 : v ≤ hiN W H item td
          · rw [if_pos q4, h04, h03]
            have s2 : ∀ k : Nat, k = 5 ∨ k = 6 → j_X6_takesNumber_2 (sg_st g 0 k (J v)) = some (J 1, sg_st (sg_st g 0 k (J v)) 0 4 (J ((td + 1 : Nat) : Int))) := by
              intro k hk
              unfold j_X6_takesNumber_2
              rw [sgs, if_neg (by omega), h04, L1, J_add]; rfl
            simp (disch := omega) only [L0, L6, jeq]
            by_cases q5 : (td : Int) = 0
            · rw [if_pos q5, s2 5 (Or.inl rfl), if_pos ⟨q2, by omega, q4, by omega⟩, show 5 + td = 5 by omega]
            · rw [if_neg q5]
              have e6 : 5 + td = 6 := by omega
              unfold j_X6_takesNumber_3
              rw [v1, s2 6 (Or.inr rfl), e6]
              by_cases q6 : (item : Int) = 6
              · obtain ⟨f1, f2, f3⟩ := hfi (by omega)
                rw [if_pos q6, f1]
                simp (disch := omega) only [jeq]
                by_cases q7 : v = fi
                · rw [if_pos q7, if_neg (fun g => g.2.2.2 ⟨by omega, by omega, q7⟩)]
                · rw [if_neg q7, if_pos ⟨q2, by omega, q4, fun g => q7 g.2.2⟩]
              · rw [if_neg q6, if_pos ⟨q2, by omega, q4, by omega⟩]
          · rw [if_neg q4, if_neg (fun g => q4 g.2.2.1), L0]
      · rw [if_neg (by rw [L2, jeq (by omega) (by omega)]; omega), if_neg (fun g => q2 g.1), L0]
    unfold f_X6_takesNumber
    rw [h03]
    simp (disch := omega) only [L4, L7, jeq]
    unfold loN at *
    by_cases q4 : (item : Int) = 4
    · rw [if_pos (by omega)] at j1
      rw [if_pos q4, L1, j1]
      rw [if_pos (show item = 4 ∨ item = 7 by omega)]
    · rw [if_neg q4]
      by_cases q7 : (item : Int) = 7
      · rw [if_pos (by omega)] at j1
        rw [if_pos q7, L1, j1]
        rw [if_pos (show item = 4 ∨ item = 7 by omega)]
      · rw [if_neg (by omega)] at j1
        rw [if_neg q7, L0, j1]
        rw [if_neg (show ¬ (item = 4 ∨ item = 7) by omega)]
  unfold f_X6_takesToken j_X6_takesToken_1
  rw [h03, h04, key]
  simp (disch := omega) only [L0, L7, L1, L2, jeq, jle]
  rw [if_neg (by omega), Option.bind_some]
  by_cases q7 : (item : Int) = 7
  · rw [if_pos q7, if_neg (by omega)]
    by_cases q : t = 2 ∧ loN item ≤ v ∧ v ≤ hiN W H item td ∧ ¬ (item = 6 ∧ td = 1 ∧ v = fi)
    · rw [if_pos q]; dsimp only; rw [cbl1]
    · rw [if_neg q]; dsimp only; rw [cbl0]
  · rw [if_neg q7, if_neg (by omega)]
    by_cases q : t = 2 ∧ loN item ≤ v ∧ v ≤ hiN W H item td ∧ ¬ (item = 6 ∧ td = 1 ∧ v = fi)
    · rw [if_pos q]; dsimp only; rw [cbl1]
    · rw [if_neg q]; dsimp only; rw [cbl0]
/-- an item's end is taken -/
theorem tkE {g : Sg} {item t : Nat} (hit : 4 ≤ item ∧ item ≤ 7) (ht : t ≤ 7) (h03 : g 0 3 = J item) (h04 : g 0 4 = J (if item = 7 then 1 else 2)) (h14 : g 1 4 = J t) :
    f_X6_takesToken g = (f_X6_takesEnd g).bind fun z4 => cbl z4.1 <| some (z4.1, z4.2) := by
  unfold f_X6_takesToken j_X6_takesToken_1
  rw [h03, h04]
  simp (disch := omega) only [L0, L7, L1, L2, jeq]
  rw [if_neg (by omega)]
  by_cases q7 : (item : Int) = 7
  · rw [if_pos q7, if_pos (by rw [if_pos (by omega)]; decide +kernel)]
  · rw [if_neg q7, if_pos (by rw [if_neg (by omega)]; decide +kernel)]
theorem Ok_swap {R S : Type} {a : Option R} {b : Option S} {Q : R → S → Prop} : Ok a (fun x => Ok b (fun y => Q x y)) ↔ Ok b (fun y => Ok a (fun x => Q x y)) := by
  constructor
  · intro ⟨x, hx, y, hy, h⟩
    exact ⟨y, hy, x, hx, h⟩
  · intro ⟨y, hy, x, hx, h⟩
    exact ⟨x, hx, y, hy, h⟩
/-- the reference's draft -/
def RDr (W H : Nat) (te : Int) (wt : Nat → Int) (mq : Nat) (qa qb : Nat → Nat) (it tn : Nat) (f : Nat → Int32) : Prop := f 0 = J W ∧ f 1 = J H ∧ f 2 = J te ∧ f 3 = J mq ∧ f 4 = J it ∧ f 5 = J tn ∧ (∀ i, i < 16 → f (6 + i) = J (wt i)) ∧ ∀ i, i < mq → f (22 + i) = J (qa i) ∧ f (28 + i) = J (qb i)
/-- what a duchy may be -/
def OKd (W H : Nat) (te : Int) (wt : Nat → Int) (mq : Nat) (qa qb : Nat → Nat) (it tn : Nat) : Prop := (1 ≤ W ∧ W ≤ 4) ∧ (1 ≤ H ∧ H ≤ 4) ∧ (1 ≤ te ∧ te ≤ 9) ∧ (∀ i, i < 16 → 0 ≤ wt i ∧ wt i ≤ 9) ∧ mq ≤ 6 ∧ (∀ i, i < mq → qa i < W * H ∧ qb i < W * H) ∧ tn ≤ 1 ∧ (it = 0 → mq = 0)
