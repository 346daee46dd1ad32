/-! ===== the text is read alike ===== -/
def RFr (μ0 μ : Sg) : Prop := (∀ q, q ≠ 0 → q ≠ 3 → μ q = μ0 q) ∧ (∀ i, i ≠ 11 → i ≠ 12 → i ≠ 13 → i ≠ 14 → μ 0 i = μ0 0 i)
theorem RFr.tk {T : Nat → Int} {len p : Nat} {μ0 μ z : Sg} (h : RFr μ0 μ) (ht : TK T len p μ z) : RFr μ0 z := ⟨fun q a b => by rw [ht.1 q a, h.1 q a b], fun i a b c d => by rw [ht.2.1 i a b c d, h.2 i a b c d]⟩
theorem RFr.st {μ0 μ : Sg} (h : RFr μ0 μ) (j : Nat) (v : Int32) : RFr μ0 (sg_st μ 3 j v) := ⟨fun q a b => by funext i; rw [sgn b, h.1 q a b], fun i a b c d => by rw [sgn (by omega), h.2 i a b c d]⟩
theorem H9T.s3 {T : Nat → Int} {len : Nat} {μ : Sg} (h : H9T T len μ) (j : Nat) (v : Int32) : H9T T len (sg_st μ 3 j v) := by
  obtain ⟨h1, h2, h3⟩ := h
  exact ⟨h1, by rw [sgn (by omega)]; exact h2, fun i hi => by rw [sgn (by omega)]; exact h3 i hi⟩
def FIN (T : Nat → Int) (len : Nat) (μ0 : Sg) (z1 z2 : Int32 × Sg) : Prop :=
  HT7 T len (sg_off z1.2 1) ∧ RFr μ0 z2.2 ∧ ((z1.1 = J 0 ∧ z2.1 = J 0 ∧ ∃ s : Nat, s ≤ 200 ∧ z1.2 1 2 = J s ∧ z2.2 0 13 = J s) ∨ (z1.1 = J 1 ∧ z2.1 = J 1 ∧ ∃ W H te wt mq qa qb it tn, OKd W H te wt mq qa qb it tn ∧ CDr W H te wt mq qa qb it tn z1.2 ∧ RDr W H te wt mq qa qb it tn (z2.2 3)))
noncomputable def LC (i : Nat) (g : Sg) : Option (Int32 × Sg) := lc2 (s_X6_readAll_31 j_X6_readAll_1) (1000 - i) (J i) g
theorem cls_it {T : Nat → Int} {len p i : Nat} {g : Sg} (hx : CTx T len p g) (hp : p ≤ len) (hi : i ≤ 200) {P : Int32 × Sg → Prop}
    (h : ∀ g1, TOK T len p g g1 → (tT T len p = 0 → Ok (j_X6_readAll_1 g1) P) ∧ (¬ tT T len p = 0 → Ok ((f_X6_takesToken g1).bind fun z12 => if z12.1 = 0 then some (0, z12.2) else LC (i + 1) z12.2) P)) : Ok (LC i g) P := by
  unfold LC
  rw [show 1000 - i = (1000 - (i + 1)) + 1 by omega]
  exact cls_iter hx hp hi h
theorem LC_go {i : Nat} {g1 g2 : Sg} {P : Int32 × Sg → Prop} (h : Ok (LC i g2) P) : Ok ((some (J 1, g2) : Option (Int32 × Sg)).bind fun z12 => if z12.1 = 0 then some (0, z12.2) else LC i z12.2) P := by
  rw [Option.bind_some]
  dsimp only
  rw [if_neg (by decide +kernel)]
  exact h
theorem LC_no {i : Nat} {g1 : Sg} {P : Int32 × Sg → Prop} (h : P (J 0, g1)) : Ok ((some (J 0, g1) : Option (Int32 × Sg)).bind fun z12 => if z12.1 = 0 then some (0, z12.2) else LC i z12.2) P := by
  rw [Option.bind_some]
  dsimp only
  rw [if_pos (by decide +kernel), Ok_some, L0]
  exact h
section
variable {T : Nat → Int} {len p i : Nat} {g : Sg} {P : Int32 × Sg → Prop} {W H : Nat} {te : Int} {wt : Nat → Int} {mq : Nat} {qa qb : Nat → Nat} {it tn : Nat}
theorem cls_word (hx : CTx T len p g) (hp : p ≤ len) (hi : i ≤ 200) (ho : OKd W H te wt mq qa qb it tn) (hd : CDr W H te wt mq qa qb it tn g) (h03 : g 0 3 = J 0) (hit : it ≤ 300)
    (hend : tT T len p = 0 → ∀ g1, TOK T len p g g1 → P (J 1, g1)) (hno : ¬ tT T len p = 0 → ¬ ((tT T len p = 4 ∧ it = 0) ∨ tT T len p = 5 ∨ (tT T len p = 6 ∧ mq < 6) ∨ (tT T len p = 7 ∧ tn = 0)) → ∀ g1, TOK T len p g g1 → P (J 0, g1))
    (hgo : ((tT T len p = 4 ∧ it = 0) ∨ tT T len p = 5 ∨ (tT T len p = 6 ∧ mq < 6) ∨ (tT T len p = 7 ∧ tn = 0)) → ∀ g2, CTx T len (tE T len p) g2 → CDr W H te wt mq qa qb it tn g2 → g2 0 3 = J (tT T len p) → g2 0 4 = J 0 → Ok (LC (i + 1) g2) P) : Ok (LC i g) P := by
  refine cls_it hx hp hi (fun g1 tk => ⟨fun q => ?_, fun q => ?_⟩)
  · unfold j_X6_readAll_1
    rw [tk.1 0 (by omega), h03, if_pos (by decide +kernel), Ok_some, L1]
    exact hend q g1 tk
  · have d1 := tk.dr hd
    have t7 := tT_le T len p
    have e := tkW (g := g1) t7 hit ho.2.2.2.2.2.2.1 ho.2.2.2.2.1 (by rw [tk.1 0 (by omega)]; exact h03) tk.2.2.2.2.1 d1.2.2.2.2.2.2.1 d1.2.2.2.2.2.2.2 d1.2.2.2.2.1
    rw [e]
    by_cases qq : (tT T len p = 4 ∧ it = 0) ∨ tT T len p = 5 ∨ (tT T len p = 6 ∧ mq < 6) ∨ (tT T len p = 7 ∧ tn = 0)
    · rw [if_pos qq]
      refine LC_go (g1 := g1) (hgo qq _ ?_ ?_ ?_ ?_)
      · obtain ⟨⟨a1, a2, a3⟩, a4⟩ := tk.tx hx
        refine ⟨⟨a1, ?_, fun j hj => ?_⟩, ?_⟩
        · rw [sof, sgn (by omega), sgn (by omega)]; exact a2
        · rw [sof, sgn (by omega), sgn (by omega)]; exact a3 j hj
        · rw [sgn (by omega), sgn (by omega)]; exact a4
      · obtain ⟨b1, b2, b3, b4, b5, b6, b7, b8⟩ := d1
        refine ⟨by rw [sgn (by omega), sgn (by omega)]; exact b1, by rw [sgn (by omega), sgn (by omega)]; exact b2, by rw [sgn (by omega), sgn (by omega)]; exact b3, fun i hi => by rw [sgn (by omega), sgn (by omega)]; exact b4 i hi, by rw [sgn (by omega), sgn (by omega)]; exact b5, fun i hi => by rw [sgn (by omega), sgn (by omega), sgn (by omega), sgn (by omega)]; exact b6 i hi, by rw [sgs, if_neg (by omega), sgs, if_neg (by omega)]; exact b7, by rw [sgs, if_neg (by omega), sgs, if_neg (by omega)]; exact b8⟩
      · rw [sgs, if_neg (by omega), sgs, if_pos rfl]
      · rw [sgs, if_pos rfl]
    · rw [if_neg qq]
      exact LC_no (hno q qq g1 tk)
theorem cls_num {item td : Nat} {fi : Int} (hit : ((item = 4 ∨ item = 5 ∨ item = 6) ∧ td < 2) ∨ (item = 7 ∧ td = 0)) (hx : CTx T len p g) (hp : p ≤ len) (hi : i ≤ 200) (ho : OKd W H te wt mq qa qb it tn) (hd : CDr W H te wt mq qa qb it tn g) (h03 : g 0 3 = J item) (h04 : g 0 4 = J td) (hfi : td = 1 → g 0 5 = J fi ∧ 0 ≤ fi ∧ fi ≤ 99)
    (hno : ¬ (tT T len p = 2 ∧ loN item ≤ tV T len p ∧ tV T len p ≤ hiN W H item td ∧ ¬ (item = 6 ∧ td = 1 ∧ tV T len p = fi)) → ∀ g1, TOK T len p g g1 → P (J 0, g1))
    (hgo : (tT T len p = 2 ∧ loN item ≤ tV T len p ∧ tV T len p ≤ hiN W H item td ∧ ¬ (item = 6 ∧ td = 1 ∧ tV T len p = fi)) → ∀ g2, CTx T len (tE T len p) g2 → CDr W H te wt mq qa qb it tn g2 → g2 0 3 = J item → g2 0 4 = J ((td + 1 : Nat) : Int) → g2 0 5 = J (if td = 0 then tV T len p else fi) → (td = 1 → g2 0 6 = J (tV T len p)) → Ok (LC (i + 1) g2) P) : Ok (LC i g) P := by
  refine cls_it hx hp hi (fun g1 tk => ⟨fun q => ?_, fun q => ?_⟩)
  · unfold j_X6_readAll_1
    rw [tk.1 0 (by omega), h03, if_neg (by rw [L0, jeq (by omega) (by omega)]; omega), Ok_some, L0]
    exact hno (by omega) g1 tk
  · have d1 := tk.dr hd
    have t7 := tT_le T len p
    have e := tkN (g := g1) (v := tV T len p) (fi := fi) hit t7 (by rw [tk.1 0 (by omega)]; exact h03) (by rw [tk.1 0 (by omega)]; exact h04) tk.2.2.2.2.1 (fun q => ⟨tk.2.2.2.2.2 q, tV_bd hp q⟩) (fun q => by rw [tk.1 0 (by omega)]; exact hfi q) ho.1.2 ho.2.1.2 d1.1 d1.2.1
    rw [e]
    by_cases qq : tT T len p = 2 ∧ loN item ≤ tV T len p ∧ tV T len p ≤ hiN W H item td ∧ ¬ (item = 6 ∧ td = 1 ∧ tV T len p = fi)
    · rw [if_pos qq]
      refine LC_go (g1 := g1) (hgo qq _ ?_ ?_ ?_ ?_ ?_ ?_)
      · obtain ⟨⟨a1, a2, a3⟩, a4⟩ := tk.tx hx
        refine ⟨⟨a1, ?_, fun j hj => ?_⟩, ?_⟩
        · rw [sof, sgn (by omega), sgn (by omega)]; exact a2
        · rw [sof, sgn (by omega), sgn (by omega)]; exact a3 j hj
        · rw [sgn (by omega), sgn (by omega)]; exact a4
      · obtain ⟨b1, b2, b3, b4, b5, b6, b7, b8⟩ := d1
        refine ⟨by rw [sgn (by omega), sgn (by omega)]; exact b1, by rw [sgn (by omega), sgn (by omega)]; exact b2, by rw [sgn (by omega), sgn (by omega)]; exact b3, fun i hi => by rw [sgn (by omega), sgn (by omega)]; exact b4 i hi, by rw [sgn (by omega), sgn (by omega)]; exact b5, fun i hi => by rw [sgn (by omega), sgn (by omega), sgn (by omega), sgn (by omega)]; exact b6 i hi, by rw [sgs, if_neg (by omega), sgs, if_neg (by omega)]; exact b7, by rw [sgs, if_neg (by omega), sgs, if_neg (by omega)]; exact b8⟩
      · rw [sgs, if_neg (by omega), sgs, if_neg (by omega), tk.1 0 (by omega)]; exact h03
      · rw [sgs, if_pos rfl]
      · rw [sgs, if_neg (by omega), sgs]
        by_cases q0 : td = 0
        · subst q0; rw [if_pos rfl, if_pos rfl]
        · rw [if_neg (by omega), if_neg q0, tk.1 0 (by omega)]
          exact (hfi (by omega)).1
      · intro q1
        subst q1
        rw [sgs, if_neg (by omega), sgs, if_pos rfl]
    · rw [if_neg qq]
      exact LC_no (hno qq g1 tk)
theorem cls_end {item : Nat} (hit : 4 ≤ item ∧ item ≤ 7) (hx : CTx T len p g) (hp : p ≤ len) (hi : i ≤ 200) (h03 : g 0 3 = J item) (h04 : g 0 4 = J (if item = 7 then 1 else 2))
    (hno : ¬ tT T len p = 3 → ∀ g1, TOK T len p g g1 → P (J 0, g1))
    (hgo : tT T len p = 3 → ∀ g1, TOK T len p g g1 → ∃ g2, f_X6_takesEnd g1 = some (J 1, g2) ∧ Ok (LC (i + 1) g2) P) : Ok (LC i g) P := by
  refine cls_it hx hp hi (fun g1 tk => ⟨fun q => ?_, fun q => ?_⟩)
  · unfold j_X6_readAll_1
    rw [tk.1 0 (by omega), h03, if_neg (by rw [L0, jeq (by omega) (by omega)]; omega), Ok_some, L0]
    exact hno (by omega) g1 tk
  · have t7 := tT_le T len p
    rw [tkE (g := g1) hit t7 (by rw [tk.1 0 (by omega)]; exact h03) (by rw [tk.1 0 (by omega)]; exact h04) tk.2.2.2.2.1]
    by_cases q3 : tT T len p = 3
    · obtain ⟨g2, e2, h2⟩ := hgo q3 g1 tk
      rw [e2, Option.bind_some]
      dsimp only
      rw [cbl1]
      exact LC_go (g1 := g1) h2
    · unfold f_X6_takesEnd
      rw [tk.2.2.2.2.1, if_neg (by rw [L3, jeq (by omega) (by omega)]; omega), Option.bind_some]
      dsimp only
      rw [L0, cbl0]
      exact LC_no (hno q3 g1 tk)
end
theorem TOK.fin {T : Nat → Int} {len p : Nat} {g g1 : Sg} (h : TOK T len p g g1) (hx : CTx T len p g) (hp : p ≤ len) : HT7 T len (sg_off g1 1) ∧ tS T len p ≤ 200 ∧ g1 1 2 = J (tS T len p) := ⟨(h.tx hx).1, by have := (tS_pr T len hp).2; have := hx.1.1; omega, h.2.2.1⟩
/-- the reference's items -/
theorem bind_bind {A B C : Type} (x : Option A) (f : A → Option B) (k : B → Option C) : (x.bind f).bind k = x.bind (fun a => (f a).bind k) := by cases x <;> rfl
theorem ri_none {μ : Sg} {tr : Int64} : f_X9_readsItem μ tr (J (-9)) = some (J 0, μ) := by
  unfold f_X9_readsItem
  rw [if_neg (by decide +kernel), if_neg (by decide +kernel), if_neg (by decide +kernel), if_neg (by decide +kernel), L0]
theorem z35 : (J 0).toNatClampNeg = 0 ∧ (J 1).toNatClampNeg = 1 ∧ (J 2).toNatClampNeg = 2 ∧ (J 3).toNatClampNeg = 3 ∧ (J 4).toNatClampNeg = 4 ∧ (J 5).toNatClampNeg = 5 := by decide +kernel
theorem ri_map {μ : Sg} {tr : Int64} {it : Nat} (h4 : μ 3 4 = J it) (hit : it ≤ 300) : f_X9_readsItem μ tr (J 0) = if it = 0 then (f_X9_number μ tr (J 1) (J 4)).bind (fun a => if a.1 = J (-9) then some (J 0, a.2) else (f_X9_number a.2 tr (J 1) (J 4)).bind (fun b => some (if b.1 = J (-9) then J 0 else J 1, sg_st (sg_st b.2 3 0 a.1) 3 1 b.1))) else some (J 0, μ) := by
  obtain ⟨y0, y1, y2, y3, y4, y5⟩ := z35
  unfold f_X9_readsItem
  rw [if_pos (by decide +kernel)]
  unfold f_X9_readsMap j_X9_readsMap_1
  simp (disch := omega) only [L0, L1, L4, L9, J_neg, chk_J, y0, y1, y4, h4, jle, if_true]
  by_cases q : it = 0
  · rw [if_pos (by omega), if_pos q, bind_bind]
    congr 1
    funext a
    by_cases qa : a.1 = J (-9)
    · rw [if_pos qa, if_pos qa, Option.bind_some]; dsimp only; rw [cbl0]
    · rw [if_neg qa, if_neg qa, bind_bind]
      congr 1
      funext b
      by_cases qb : b.1 = J (-9)
      · rw [if_pos qb, if_pos qb, Option.bind_some]; dsimp only; rw [cbl0]
      · rw [if_neg qb, if_neg qb, Option.bind_some]; dsimp only; rw [cbl1]
  · rw [if_neg (by omega), if_neg q, Option.bind_some]; dsimp only; rw [cbl0]
theorem dc_eq {μ : Sg} {tr : Int64} {W H : Nat} (h0 : μ 3 0 = J W) (h1 : μ 3 1 = J H) : f_X9_draftCells μ tr = some (J ((W * H : Nat) : Int)) := by
  obtain ⟨y0, y1, y2, y3, y4, y5⟩ := z35
  unfold f_X9_draftCells
  simp (disch := omega) only [L0, L1, chk_J, y0, y1, h0, h1, J_mul]
  rw [Int.natCast_mul]
theorem ri_worth {μ : Sg} {tr : Int64} {W H : Nat} (h0 : μ 3 0 = J W) (h1 : μ 3 1 = J H) : f_X9_readsItem μ tr (J 1) = (f_X9_number μ tr (J 0) (J (((W * H : Nat) : Int) - 1))).bind (fun a => if a.1 = J (-9) then some (J 0, a.2) else (f_X9_number a.2 tr (J 0) (J 9)).bind (fun b => chk (J 6 + a.1) 35 (some (if b.1 = J (-9) then J 0 else J 1, sg_st b.2 3 (J 6 + a.1).toNatClampNeg b.1)))) := by
  unfold f_X9_readsItem
  rw [if_neg (by decide +kernel), if_pos (by decide +kernel)]
  unfold f_X9_readsWorth
  rw [dc_eq h0 h1, Option.bind_some, L1, J_sub, bind_bind, L0, L9, J_neg, L6]
  congr 1
  funext a
  by_cases qa : a.1 = J (-9)
  · rw [if_pos qa, if_pos qa, Option.bind_some]; dsimp only; rw [cbl0]
  · rw [if_neg qa, if_neg qa, bind_bind]
    congr 1
    funext b
    by_cases qc : J 6 + a.1 < 0 ∨ 35 ≤ (J 6 + a.1).toNatClampNeg
    · unfold chk; rw [if_pos qc, if_pos qc]; rfl
    · unfold chk; rw [if_neg qc, if_neg qc]
      by_cases qb : b.1 = J (-9)
      · rw [if_pos qb, if_pos qb, Option.bind_some]; dsimp only; rw [cbl0]
      · rw [if_neg qb, if_neg qb, Option.bind_some]; dsimp only; rw [cbl1]
theorem ri_tear {μ : Sg} {tr : Int64} {tn : Nat} (h5 : μ 3 5 = J tn) (htn : tn ≤ 1) : f_X9_readsItem μ tr (J 3) = if tn = 0 then (f_X9_number μ tr (J 1) (J 9)).bind (fun a => some (if a.1 = J (-9) then J 0 else J 1, sg_st (sg_st a.2 3 5 (J 1)) 3 2 a.1)) else some (J 0, sg_st (sg_st μ 3 5 (J 1)) 3 2 (J (-9))) := by
  obtain ⟨y0, y1, y2, y3, y4, y5⟩ := z35
  unfold f_X9_readsItem
  rw [if_neg (by decide +kernel), if_neg (by decide +kernel), if_neg (by decide +kernel), if_pos (by decide +kernel)]
  unfold f_X9_readsTear j_X9_readsTear_1
  simp (disch := omega) only [L0, L1, L5, L2, L9, J_neg, chk_J, y2, y5, h5, jle, if_true]
  by_cases q : tn = 0
  · rw [if_pos (by omega), if_pos q, bind_bind]
    congr 1
    funext a
    by_cases qa : a.1 = J (-9)
    · rw [if_pos qa, if_pos qa, Option.bind_some]; dsimp only; rw [if_pos rfl]
    · rw [if_neg qa, if_neg qa, Option.bind_some]; dsimp only; rw [if_neg (by decide +kernel)]
  · rw [if_neg (by omega), if_neg q, Option.bind_some]; dsimp only; rw [if_pos rfl]
theorem ri_quarrel {μ : Sg} {tr : Int64} {W H mq : Nat} (h0 : μ 3 0 = J W) (h1 : μ 3 1 = J H) (h3 : μ 3 3 = J mq) (hmq : mq ≤ 6) : f_X9_readsItem μ tr (J 2) = if mq = 6 then some (J 0, μ) else (f_X9_number μ tr (J 0) (J (((W * H : Nat) : Int) - 1))).bind (fun a => if a.1 = J (-9) then some (J 0, a.2) else (f_X9_draftCells a.2 tr).bind (fun c => (f_X9_number a.2 tr (J 0) (c - J 1)).bind (fun b => if b.1 = J (-9) then some (J 0, b.2) else if b.1 = a.1 then some (J 0, b.2) else
    some (J 1, sg_st (sg_st (sg_st b.2 3 (22 + mq) a.1) 3 (28 + mq) b.1) 3 3 ((sg_st (sg_st b.2 3 (22 + mq) a.1) 3 (28 + mq) b.1) 3 3 + J 1))))) := by
  obtain ⟨y0, y1, y2, y3, y4, y5⟩ := z35
  have i1 : (J (22 + (mq : Int))).toNatClampNeg = 22 + mq := by rw [jcl (by omega)]; omega
  have i2 : (J (28 + (mq : Int))).toNatClampNeg = 28 + mq := by rw [jcl (by omega)]; omega
  unfold f_X9_readsItem
  rw [if_neg (by decide +kernel), if_neg (by decide +kernel), if_pos (by decide +kernel)]
  unfold f_X9_readsQuarrel j_X9_readsQuarrel_1
  rw [dc_eq h0 h1]
  by_cases q : mq = 6
  · simp (disch := omega) only [L0, L1, L3, L6, L9, J_neg, chk_J, y3, h3, if_true, Option.bind_some]
    rw [if_pos (by rw [q]; rfl), if_pos q, Option.bind_some]; dsimp only; rw [cbl0]
  · simp (disch := omega) only [L0, L1, L3, L6, L9, L22, L28, J_neg, J_sub, J_add, chk_J, y3, h3, i1, i2, if_true, Option.bind_some]
    rw [if_neg (by rw [jeq (by omega) (by omega)]; omega), if_neg q, bind_bind]
    congr 1
    funext a
    by_cases qa : a.1 = J (-9)
    · rw [if_pos qa, Option.bind_some]; dsimp only; rw [cbl0]
    · rw [if_neg qa, bind_bind]
      congr 1
      funext c
      rw [bind_bind]
      congr 1
      funext b
      by_cases qb : b.1 = J (-9)
      · rw [if_pos qb, Option.bind_some]; dsimp only; rw [cbl0]
      · rw [if_neg qb]
        by_cases qc : b.1 = a.1
        · rw [if_pos qc, Option.bind_some]; dsimp only; rw [cbl0]
        · rw [if_neg qc, Option.bind_some]; dsimp only; rw [cbl1]
