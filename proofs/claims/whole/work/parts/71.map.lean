/-! ===== a new map: the first draft, the reading, the beginning anew ===== -/
theorem asFirst_ok (σ : Sg) : Ok (f_X1_becomeAsAtFirst σ) (fun z => z 0 0 = J 3 ∧ z 0 1 = J 2 ∧ z 0 2 = J 3 ∧ (∀ i, i < 16 → z 1 i = J 1) ∧ z 2 0 = J 0) := by
  unfold f_X1_becomeAsAtFirst
  rw [show (0 : Int32) = J ((0 : Nat) : Int) from by decide, L3, L2]
  refine Ok_for2 16 (fun k g => g 0 0 = J 3 ∧ g 0 1 = J 2 ∧ g 0 2 = J 3 ∧ ∀ i, i < k → g 1 i = J 1) (fun k g κ hk hi hκ => ?_) (fun g κ hi => ?_) 1000 0 _ (by omega) (by omega) ?_
  · obtain ⟨a1, a2, a3, a4⟩ := hi
    have ik : (J (k : Int)).toNatClampNeg = k := by rw [jcl (by omega)]; omega
    unfold s_X1_becomeAsAtFirst_17
    rw [L16, if_neg (by rw [jle (by omega) (by omega)]; omega), chk_J (by omega), ik, L1, J_add]
    refine hκ _ ⟨by rw [sgn (by omega)]; exact a1, by rw [sgn (by omega)]; exact a2, by rw [sgn (by omega)]; exact a3, fun i hi => ?_⟩
    rw [sgs]
    split
    · rfl
    · exact a4 i (by omega)
  · obtain ⟨a1, a2, a3, a4⟩ := hi
    unfold s_X1_becomeAsAtFirst_17 j_X1_becomeAsAtFirst_1
    rw [L16, if_pos (by rw [jle (by omega) (by omega)]; omega), Ok_some, L0]
    exact ⟨by rw [sgn (by omega)]; exact a1, by rw [sgn (by omega)]; exact a2, by rw [sgn (by omega)]; exact a3, fun i hi => by rw [sgn (by omega)]; exact a4 i hi, by rw [sgs, if_pos rfl]⟩
  · exact ⟨by rw [sgs, if_neg (by omega), sgs, if_neg (by omega), sgs, if_pos rfl], by rw [sgs, if_neg (by omega), sgs, if_pos rfl], by rw [sgs, if_pos rfl], fun i hi => by omega⟩
theorem reads_ok {T : Nat → Int} {len : Nat} {σ μ : Sg} {tr : Int64} (h7 : HT7 T len (sg_off σ 1)) (h9 : H9T T len μ) : Ok (f_X6_readAll σ) (fun z1 => Ok (f_X9_reads μ tr) (fun z2 => FIN T len μ z1 z2)) := by
  have hl := h7.1
  unfold f_X6_readAll
  rw [Ok_bind]
  refine (asFirst_ok _).mono (fun z1 hz1 => ?_)
  obtain ⟨c1, c2, c3, c4, c5⟩ := hz1
  unfold f_X7_rewind
  rw [Option.bind_some, Ok_swap]
  unfold f_X9_reads
  rw [show (0 : Int32) = J ((0 : Nat) : Int) from by decide]
  refine Ok_for2 35 (fun k g => (∀ q, q ≠ 3 → g q = μ q) ∧ ∀ i, i < k → g 3 i = J (if 6 ≤ i ∧ i ≤ 21 then 1 else 0)) (fun k g κ hk hi hκ => ?_) (fun g κ hi => ?_) 1000 0 _ (by omega) (by omega) ⟨fun _ _ => rfl, fun i hi => by omega⟩
  · obtain ⟨a1, a2⟩ := hi
    have ik : (J (k : Int)).toNatClampNeg = k := by rw [jcl (by omega)]; omega
    unfold s_X9_reads_2
    rw [L35, if_neg (by rw [jle (by omega) (by omega)]; omega), L6, L21, in_eq (by omega) (by omega) (by omega), Option.bind_some]
    by_cases q : 6 ≤ k ∧ k ≤ 21
    · rw [if_pos (show (6 : Int) ≤ (k : Int) ∧ (k : Int) ≤ 21 by omega), if_neg (by decide +kernel)]
      unfold j_X9_reads_2
      rw [chk_J (by omega), ik, L1, J_add]
      refine hκ _ ⟨fun q' hq => by funext i; rw [sgn hq]; rw [a1 q' hq], fun i hi => ?_⟩
      rw [sgs]
      by_cases e : i = k
      · rw [if_pos e, e, if_pos q]
      · rw [if_neg e]; exact a2 i (by omega)
    · rw [if_neg (show ¬ ((6 : Int) ≤ (k : Int) ∧ (k : Int) ≤ 21) by omega), if_pos (by decide +kernel)]
      unfold j_X9_reads_2
      rw [chk_J (by omega), ik, L1, J_add, L0]
      refine hκ _ ⟨fun q' hq => by funext i; rw [sgn hq]; rw [a1 q' hq], fun i hi => ?_⟩
      rw [sgs]
      by_cases e : i = k
      · rw [if_pos e, e, if_neg q]
      · rw [if_neg e]; exact a2 i (by omega)
  · obtain ⟨a1, a2⟩ := hi
    obtain ⟨y0, y1, y2, y3, y4, y5⟩ := z35
    unfold s_X9_reads_2 j_X9_reads_1
    rw [L35, if_pos (by rw [jle (by omega) (by omega)]; omega), L0, L1, L2, L3, chk_J (by omega), chk_J (by omega), chk_J (by omega), y0, y1, y2, Ok_bind]
    have e9 : H9T T len (sg_st (sg_st (sg_st (sg_st g 3 0 (J 3)) 3 1 (J 2)) 3 2 (J 3)) 0 11 (J 0)) := ⟨hl, by rw [sgs, if_neg (by omega), sgn (by omega), sgn (by omega), sgn (by omega), a1 0 (by omega)]; exact h9.2.1, fun j hj => by rw [sgn (by omega), sgn (by omega), sgn (by omega), sgn (by omega), a1 1 (by omega)]; exact h9.2.2 j hj⟩
    have er : RFr μ (sg_st (sg_st (sg_st (sg_st g 3 0 (J 3)) 3 1 (J 2)) 3 2 (J 3)) 0 11 (J 0)) := ⟨fun q a b => by funext i; rw [sgn a, sgn b, sgn b, sgn b, a1 q b], fun i a _ _ _ => by rw [sgs, if_neg a, sgn (by omega), sgn (by omega), sgn (by omega), a1 0 (by omega)]⟩
    refine (token9_ok (tr := tr) e9 (p := 0) (by omega) (by rw [sgs, if_pos rfl]; rfl)).mono (fun y hy => ?_)
    rw [Ok_swap]
    refine parse_ok len 0 0 1000 _ y (by omega) (by omega) (by omega) (by omega) ⟨3, 2, 3, fun _ => 1, 0, fun _ => 0, fun _ => 0, 0, 0, _, ?_, ?_, ?_, ?_, e9, hy, er.tk hy, ?_, by omega⟩
    · exact ⟨by omega, by omega, by omega, fun i hi => by dsimp only; omega, by omega, fun i hi => by omega, by omega, fun _ => rfl⟩
    · refine ⟨⟨hl, ?_, fun j hj => ?_⟩, ?_⟩
      · rw [sof, sps (by omega), sgs, if_neg (by omega), sgs, if_neg (by omega), sgs, if_neg (by omega), sgs, if_neg (by omega), sof, sgn (by omega), sgn (by omega), sgn (by omega), spn (by omega)]
        exact h7.2.1
      · rw [sof, sps (by omega), sgn (by omega), sgn (by omega), sgn (by omega), sgn (by omega), sof, sgn (by omega), sgn (by omega), sgn (by omega), spn (by omega)]
        exact h7.2.2 j hj
      · rw [sps (by omega), sgs, if_neg (by omega), sgs, if_neg (by omega), sgs, if_pos rfl]
    · rw [spn (by omega), sgs, if_neg (by omega), sgs, if_pos rfl]; rfl
    · refine ⟨?_, ?_, ?_, fun i hi => ?_, ?_, fun i hi => by omega, ?_, ?_⟩
      · rw [spn (by omega), sgn (by omega), sgn (by omega), sgn (by omega), sps (by omega)]; exact c1
      · rw [spn (by omega), sgn (by omega), sgn (by omega), sgn (by omega), sps (by omega)]; exact c2
      · rw [spn (by omega), sgn (by omega), sgn (by omega), sgn (by omega), sps (by omega)]; exact c3
      · rw [spn (by omega), sgn (by omega), sgn (by omega), sgn (by omega), sps (by omega)]; exact c4 i hi
      · rw [spn (by omega), sgn (by omega), sgn (by omega), sgn (by omega), sps (by omega)]; exact c5
      · rw [spn (by omega), sgs, if_neg (by omega), sgs, if_neg (by omega), sgs, if_pos rfl]
      · rw [spn (by omega), sgs, if_pos rfl]
    · rw [hy.1 3 (by omega)]
      refine ⟨?_, ?_, ?_, ?_, ?_, ?_, fun i hi => ?_, fun i hi => by omega⟩
      · rw [sgn (by omega), sgs, if_neg (by omega), sgs, if_neg (by omega), sgs, if_pos rfl]; rfl
      · rw [sgn (by omega), sgs, if_neg (by omega), sgs, if_pos rfl]; rfl
      · rw [sgn (by omega), sgs, if_pos rfl]
      · rw [sgn (by omega), sgs, if_neg (by omega), sgs, if_neg (by omega), sgs, if_neg (by omega), a2 3 (by omega), if_neg (by omega)]; rfl
      · rw [sgn (by omega), sgs, if_neg (by omega), sgs, if_neg (by omega), sgs, if_neg (by omega), a2 4 (by omega), if_neg (by omega)]; rfl
      · rw [sgn (by omega), sgs, if_neg (by omega), sgs, if_neg (by omega), sgs, if_neg (by omega), a2 5 (by omega), if_neg (by omega)]; rfl
      · rw [sgn (by omega), sgs, if_neg (by omega), sgs, if_neg (by omega), sgs, if_neg (by omega), a2 (6 + i) (by omega), if_pos (by omega)]
theorem begin_ok (σ : Sg) : Ok (f_X2_begin σ) (fun z => z 0 1 = J 0 ∧ z 0 2 = J 0 ∧ ∀ i, i < 24 → z 2 i = J 0) := by
  unfold f_X2_begin
  rw [show (0 : Int32) = J ((0 : Nat) : Int) from by decide]
  refine Ok_for2 24 (fun k g => g 0 1 = J 0 ∧ g 0 2 = J 0 ∧ ∀ i, i < k → g 2 i = J 0) (fun k g κ hk hi hκ => ?_) (fun g κ hi => ?_) 1000 0 _ (by omega) (by omega) ?_
  · obtain ⟨a1, a2, a3⟩ := hi
    have ik : (J (k : Int)).toNatClampNeg = k := by rw [jcl (by omega)]; omega
    unfold s_X2_begin_12
    rw [L24, if_neg (by rw [jle (by omega) (by omega)]; omega), chk_J (by omega), ik, L1, J_add, L0]
    refine hκ _ ⟨by rw [sgn (by omega)]; exact a1, by rw [sgn (by omega)]; exact a2, fun i hi => ?_⟩
    rw [sgs]
    split
    · rfl
    · exact a3 i (by omega)
  · unfold s_X2_begin_12
    rw [L24, if_pos (by rw [jle (by omega) (by omega)]; omega), Ok_some]
    exact hi
  · exact ⟨by rw [sgs, if_neg (by omega), sgs, if_pos rfl]; rfl, by rw [sgs, if_pos rfl]; rfl, fun i hi => by omega⟩
def NEW (W H m : Nat) (ca cb : Nat → Nat) (z : Sg) : Prop := HP (W * H) (Fl W H) (sg_off z 14) ∧ HC W (W * H) m ca cb (sg_off z 26) ∧ z 30 1 = J 0 ∧ z 30 2 = J 0 ∧ HV (fun _ _ => 0) m ca cb (z 32) ∧ z 34 0 = J 0 ∧ z 37 0 = J 0 ∧ z 40 0 = J 0 ∧ HP (W * H) (Fl W H) (sg_off z 20) ∧ HV (fun _ _ => 0) m ca cb (z 29)
theorem anew_ok {W H : Nat} {σ : Sg} {tr : Int64} (h1 : 1 ≤ W) (h2 : W ≤ 4) (h3 : 1 ≤ H) (h4 : H ≤ 4) (e0 : σ 9 0 = J W) (e1 : σ 9 1 = J H) : Ok (f_X8_beginAnew σ tr) (fun z => (∃ m ca cb, NEW W H m ca cb z) ∧ ∀ q, q < 14 → z q = σ q) := by
  unfold f_X8_beginAnew
  rw [e0, e1, Ok_bind]
  refine (layFlat_ok h1 h2 h3 h4 _).mono (fun z1 hz1 => ?_)
  have p1 : HP (W * H) (Fl W H) (sg_off (sg_sp σ 14 6 z1) 14) := hz1.cong (fun q hq => by funext i; rw [sof, sps (by omega), show 14 + q - 14 = q by omega])
  have b1 : ∀ q, q < 14 → (sg_sp σ 14 6 z1) q = σ q := fun q hq => by funext i; rw [spn (by omega)]
  generalize sg_sp σ 14 6 z1 = s1 at *
  rw [Ok_bind]
  refine (layOut_ok h1 h2 h3 h4 p1).mono (fun z2 hz2 => ?_)
  obtain ⟨⟨m, ca, cb, hc⟩, -⟩ := hz2
  have p2 : HP (W * H) (Fl W H) (sg_off (sg_sp s1 26 4 z2) 14) := p1.cong (fun q hq => by funext i; rw [sof, sof, spn (by omega)])
  have c2 : HC W (W * H) m ca cb (sg_off (sg_sp s1 26 4 z2) 26) := hc.cong (by funext i; rw [sof, sps (by omega)]) (by funext i; rw [sof, sps (by omega)]) (by funext i; rw [sof, sps (by omega)])
  have b2 : ∀ q, q < 14 → (sg_sp s1 26 4 z2) q = σ q := fun q hq => by funext i; rw [spn (by omega), b1 q hq]
  generalize sg_sp s1 26 4 z2 = s2 at *
  rw [Ok_bind]
  refine (begin_ok _).mono (fun z3 hz3 => ?_)
  obtain ⟨d1, d2, d3⟩ := hz3
  have p3 : HP (W * H) (Fl W H) (sg_off (sg_sp s2 30 3 z3) 14) := p2.cong (fun q hq => by funext i; rw [sof, sof, spn (by omega)])
  have c3 : HC W (W * H) m ca cb (sg_off (sg_sp s2 30 3 z3) 26) := c2.cong (by funext i; rw [sof, sof, spn (by omega)]) (by funext i; rw [sof, sof, spn (by omega)]) (by funext i; rw [sof, sof, spn (by omega)])
  have b3 : ∀ q, q < 14 → (sg_sp s2 30 3 z3) q = σ q := fun q hq => by funext i; rw [spn (by omega), b2 q hq]
  have x1 : (sg_sp s2 30 3 z3) 30 1 = J 0 := by rw [sps (by omega)]; exact d1
  have x2 : (sg_sp s2 30 3 z3) 30 2 = J 0 := by rw [sps (by omega)]; exact d2
  have x3 : HV (fun _ _ => 0) m ca cb ((sg_sp s2 30 3 z3) 32) := fun i hi => by
    have := c3.2.1
    rw [sps (by omega)]; exact d3 i (by omega)
  generalize sg_sp s2 30 3 z3 = s3 at *
  rw [show (0 : Int32) = J ((0 : Nat) : Int) from by decide]
  refine Ok_for2 2 (fun k g => (1 ≤ k → g 34 0 = J 0) ∧ (2 ≤ k → g 37 0 = J 0) ∧ ∀ q, q ≠ 34 → q ≠ 37 → g q = s3 q) (fun k g κ hk hi hκ => ?_) (fun g κ hi => ?_) 1000 0 _ (by omega) (by omega) ⟨fun _ => by omega, fun _ => by omega, fun _ _ _ => rfl⟩
  · obtain ⟨a1, a2, a3⟩ := hi
    unfold s_X8_beginAnew_41
    rw [L2, if_neg (by rw [jle (by omega) (by omega)]; omega)]
    rcases (show k = 0 ∨ k = 1 by omega) with e | e <;> subst e
    · rw [if_pos (by decide +kernel), L1, J_add, L0]
      exact hκ _ ⟨fun _ => by rw [sgs, if_pos rfl], fun _ => by omega, fun q q1 q2 => by funext i; rw [sgn q1, a3 q q1 q2]⟩
    · rw [if_neg (by decide +kernel), if_pos (by decide +kernel), L1, J_add, L0]
      exact hκ _ ⟨fun _ => by rw [sgn (by omega)]; exact a1 (by omega), fun _ => by rw [sgs, if_pos rfl], fun q q1 q2 => by funext i; rw [sgn q2, a3 q q1 q2]⟩
  · obtain ⟨a1, a2, a3⟩ := hi
    unfold s_X8_beginAnew_41 j_X8_beginAnew_1
    rw [L2, if_pos (by rw [jle (by omega) (by omega)]; omega), L0, Ok_bind]
    have f3 : ∀ q, q ≠ 34 → q ≠ 37 → q ≠ 40 → (sg_st g 40 0 (J 0)) q = s3 q := fun q q1 q2 q3 => by funext i; rw [sgn q3, a3 q q1 q2]
    have g34 : (sg_st g 40 0 (J 0)) 34 0 = J 0 := by rw [sgn (by omega)]; exact a1 (by omega)
    have g37 : (sg_st g 40 0 (J 0)) 37 0 = J 0 := by rw [sgn (by omega)]; exact a2 (by omega)
    have g40 : (sg_st g 40 0 (J 0)) 40 0 = J 0 := by rw [sgs, if_pos rfl]
    generalize sg_st g 40 0 (J 0) = s4 at *
    have p4 : HP (W * H) (Fl W H) (sg_off s4 14) := p3.cong (fun q hq => by unfold sg_off; exact f3 _ (by omega) (by omega) (by omega))
    have c4 : HC W (W * H) m ca cb (sg_off s4 26) := c3.cong (by unfold sg_off; exact f3 _ (by omega) (by omega) (by omega)) (by unfold sg_off; exact f3 _ (by omega) (by omega) (by omega)) (by unfold sg_off; exact f3 _ (by omega) (by omega) (by omega))
    have e30 := f3 30 (by omega) (by omega) (by omega)
    have e32 := f3 32 (by omega) (by omega) (by omega)
    refine (tells_ok (tr := tr) (cd := fun _ => 0) (dn := fun _ _ => 0) (nf := 0) h1 h2 h3 h4 p4 c4 (by omega) (fun k hk => by omega) (by rw [e30]; exact x2) (fun k hk => by omega) (by rw [e32]; exact x3)).mono (fun z hz => ?_)
    obtain ⟨z1', z2', z3', z4'⟩ := hz
    rw [Ok_some]
    refine ⟨⟨m, ca, cb, ?_, z2', ?_, ?_, ?_, ?_, ?_, ?_, z1', z3'⟩, fun q hq => by rw [z4' q (by omega) (by omega), f3 q (by omega) (by omega) (by omega), b3 q hq]⟩
    · exact p4.cong (fun q hq => by unfold sg_off; exact z4' _ (by omega) (by omega))
    · rw [z4' 30 (by omega) (by omega), e30]; exact x1
    · rw [z4' 30 (by omega) (by omega), e30]; exact x2
    · rw [z4' 32 (by omega) (by omega), e32]; exact x3
    · rw [z4' 34 (by omega) (by omega)]; exact g34
    · rw [z4' 37 (by omega) (by omega)]; exact g37
    · rw [z4' 40 (by omega) (by omega)]; exact g40
theorem Rel_new {W H : Nat} {te : Int} {wt : Nat → Int} {mq : Nat} {qa qb : Nat → Nat} {it tn m : Nat} {ca cb : Nat → Nat} {z μ : Sg} {tr : Int64} (ho : OKd W H te wt mq qa qb it tn) (t0 : z 2 0 = J 0) (hd : z 9 0 = J W ∧ z 9 1 = J H ∧ z 9 2 = J te ∧ (∀ i, i < 16 → z 10 i = J (wt i)) ∧ HQ mq qa qb (sg_off z 11)) (hz : NEW W H m ca cb z) (r2 : RDr W H te wt mq qa qb it tn (μ 2)) (m0 : μ 0 2 = J 0) (m1 : μ 0 10 = J 0) (m4 : ∀ i, i < 40 → μ 4 i = J 0) (m6 : μ 6 0 = J 0) (m61 : μ 6 1 = J 0) : Rel z tr μ tr := by
  obtain ⟨n1, n2, n3, n4, n5, n6, n7, n8, n9, n10⟩ := hz
  have hn : W * H ≤ 16 := Nat.mul_le_mul ho.1.2 ho.2.1.2
  refine ⟨rfl, fun _ => 0, 0, W, H, te, wt, mq, qa, qb, it, tn, 0, fun _ => 0, fun _ => 0, m, ca, cb, 0, fun _ => 0, fun _ _ => 0, ?_, ?_, Or.inl ⟨n6, m6⟩, Or.inl ⟨n7, m61⟩⟩
  · exact ⟨⟨by omega, t0, fun j hj => by omega⟩, ⟨by omega, m0, fun j hj => by omega⟩, ho, hd, r2, ⟨by omega, ⟨n8, fun i hi => by omega⟩, m1, fun i hi => by omega⟩, n1, n2⟩
  · refine ⟨⟨by omega, fun k hk => by omega, by rw [n3]; exact (m4 0 (by omega)).symm, n4, m4 1 (by omega), fun k hk => by omega, n5, fun c way hc hw he => m4 _ (by omega), fun a b _ => ⟨Int.le_refl _, by show (0 : Int) ≤ 9; omega⟩⟩, n9, n10⟩
theorem RDr.cg {W H : Nat} {te : Int} {wt : Nat → Int} {mq : Nat} {qa qb : Nat → Nat} {it tn : Nat} {f g : Nat → Int32} (h : RDr W H te wt mq qa qb it tn f) (hm : mq ≤ 6) (e : ∀ i, i < 35 → g i = f i) : RDr W H te wt mq qa qb it tn g := by
  obtain ⟨d1, d2, d3, d4, d5, d6, d7, d8⟩ := h
  refine ⟨by rw [e 0 (by omega)]; exact d1, by rw [e 1 (by omega)]; exact d2, by rw [e 2 (by omega)]; exact d3, by rw [e 3 (by omega)]; exact d4, by rw [e 4 (by omega)]; exact d5, by rw [e 5 (by omega)]; exact d6, fun i hi => by rw [e _ (by omega)]; exact d7 i hi, fun i hi => by rw [e _ (by omega), e _ (by omega)]; exact d8 i hi⟩
