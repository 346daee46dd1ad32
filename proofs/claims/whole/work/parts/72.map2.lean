/-! ===== the step map, and the beginning ===== -/
theorem dcopy_ok (σ τ : Sg) : Ok (f_X1_copyFrom σ τ) (fun z => z 0 0 = τ 0 0 ∧ z 0 1 = τ 0 1 ∧ z 0 2 = τ 0 2 ∧ (∀ i, i < 16 → z 1 i = τ 1 i) ∧ z 2 0 = τ 2 0 ∧ ∀ i, i < 6 → z 3 i = τ 3 i ∧ z 4 i = τ 4 i) := by
  unfold f_X1_copyFrom f_X4_copyFrom
  have y0 : (0 : Int32).toNatClampNeg = 0 := by decide
  have y6 : (6 : Int32).toNatClampNeg = 6 := by decide
  have y16 : (16 : Int32).toNatClampNeg = 16 := by decide
  rw [y0, y6, y16, L6, L16, ccpE (by omega), ccpE (by omega), ccpE (by omega), Option.bind_some, Ok_some]
  refine ⟨?_, ?_, ?_, fun i hi => ?_, ?_, fun i hi => ⟨?_, ?_⟩⟩
  · rw [spn (by omega), san (by omega), sgs, if_neg (by omega), sgs, if_neg (by omega), sgs, if_pos rfl]
  · rw [spn (by omega), san (by omega), sgs, if_neg (by omega), sgs, if_pos rfl]
  · rw [spn (by omega), san (by omega), sgs, if_pos rfl]
  · rw [spn (by omega), sas]
    unfold va_cpy
    rw [if_pos (by omega), show 0 + (i - 0) = i by omega]
  · rw [sps (by omega), san (by omega), san (by omega), sgs, if_pos rfl]; rfl
  · rw [sps (by omega), san (by omega), sas]
    unfold va_cpy
    rw [if_pos (by omega), show 0 + (i - 0) = i by omega]; rfl
  · rw [sps (by omega), sas]
    unfold va_cpy
    rw [if_pos (by omega), show 0 + (i - 0) = i by omega]; rfl
theorem ref_new (μ : Sg) : Ok (lc2 s_X9_map_17 1000 0 μ) (fun z => z.1 = μ 3 4 ∧ (∀ i, i < 35 → z.2 2 i = μ 3 i) ∧ (∀ i, i < 40 → z.2 4 i = J 0) ∧ z.2 6 0 = J 0 ∧ z.2 6 1 = J 0 ∧ z.2 0 10 = J 0 ∧ z.2 0 2 = J 0) := by
  rw [show (0 : Int32) = J ((0 : Nat) : Int) from by decide]
  refine Ok_for2 35 (fun k g => (∀ q, q ≠ 2 → g q = μ q) ∧ ∀ i, i < k → g 2 i = μ 3 i) (fun k g κ hk hi hκ => ?_) (fun g κ hi => ?_) 1000 0 _ (by omega) (by omega) ⟨fun _ _ => rfl, fun i hi => by omega⟩
  · obtain ⟨a1, a2⟩ := hi
    have ik : (J (k : Int)).toNatClampNeg = k := by rw [jcl (by omega)]; omega
    unfold s_X9_map_17
    rw [L35, if_neg (by rw [jle (by omega) (by omega)]; omega), chk_J (by omega), chk_J (by omega), ik, L1, J_add]
    refine hκ _ ⟨fun q hq => by funext i; rw [sgn hq, a1 q hq], fun i hi => ?_⟩
    rw [sgs]
    by_cases e : i = k
    · rw [if_pos e, e, a1 3 (by omega)]
    · rw [if_neg e]; exact a2 i (by omega)
  · obtain ⟨a1, a2⟩ := hi
    unfold s_X9_map_17
    rw [L35, if_pos (by rw [jle (by omega) (by omega)]; omega), show (0 : Int32) = J ((0 : Nat) : Int) from by decide]
    refine Ok_for2 40 (fun k g' => (∀ i, i < 35 → g' 2 i = μ 3 i) ∧ ∀ i, i < k → g' 4 i = J 0) (fun k g' κ hk hi hκ => ?_) (fun g' κ hi => ?_) 1000 0 _ (by omega) (by omega) ⟨a2, fun i hi => by omega⟩
    · obtain ⟨b1, b2⟩ := hi
      have ik : (J (k : Int)).toNatClampNeg = k := by rw [jcl (by omega)]; omega
      unfold s_X9_map_43
      rw [L40, if_neg (by rw [jle (by omega) (by omega)]; omega), chk_J (by omega), ik, L1, J_add, L0]
      refine hκ _ ⟨fun i hi => by rw [sgn (by omega)]; exact b1 i hi, fun i hi => ?_⟩
      rw [sgs]
      by_cases e : i = k
      · rw [if_pos e]
      · rw [if_neg e]; exact b2 i (by omega)
    · obtain ⟨b1, b2⟩ := hi
      have y0 : (0 : Int32).toNatClampNeg = 0 := by decide
      have y1 : (1 : Int32).toNatClampNeg = 1 := by decide
      have y4 : (4 : Int32).toNatClampNeg = 4 := by decide
      have yb : vp_nar .boolean 0 = J 0 := by decide
      unfold s_X9_map_43 j_X9_map_1
      rw [L40, if_pos (by rw [jle (by omega) (by omega)]; omega), y0, y1, y4, yb, L0, L1, L4, chk_J (by omega), chk_J (by omega), chk_J (by omega), Ok_some]
      refine ⟨?_, fun i hi => ?_, fun i hi => ?_, ?_, ?_, ?_, ?_⟩ <;> dsimp only
      · rw [sgn (by omega), sgn (by omega), sgn (by omega), sgn (by omega)]; exact b1 4 (by omega)
      · rw [sgn (by omega), sgn (by omega), sgn (by omega), sgn (by omega)]; exact b1 i hi
      · rw [sgn (by omega), sgn (by omega), sgn (by omega), sgn (by omega)]; exact b2 i hi
      · rw [sgn (by omega), sgn (by omega), sgs, if_neg (by omega), sgs, if_pos rfl]
      · rw [sgn (by omega), sgn (by omega), sgs, if_pos rfl]
      · rw [sgs, if_neg (by omega), sgs, if_pos rfl]
      · rw [sgs, if_pos rfl]
theorem st_map : LS_map Rel := by
  intro σ tr μ tm h
  have h' := h
  obtain ⟨e, T, len, W, H, te, wt, mq, qa, qb, it, tn, ms, sa, sb, m, ca, cb, nf, cd, dn, a, b, c, d⟩ := h
  subst e
  have t7 : HT7 T len (sg_off (sg_off σ 1) 1) := ⟨a.1.1, by have := a.1.2.1; exact this, fun j hj => by have := a.1.2.2 j hj; exact this⟩
  obtain ⟨z1, e1, z2, e2, f1, f2, f3⟩ := reads_ok (tr := tr) t7 a.2.1
  rcases f3 with ⟨g1, g2, s, g3, g4, g5⟩ | ⟨g1, g2, W', H', te', wt', mq', qa', qb', it', tn', ho, hc, hr⟩
  · refine ⟨(-10 - J s, sg_sp σ 1 8 z1.2), (-10 - J s, z2.2), ?_, ?_, rfl, ?_⟩
    · unfold f_X8_map
      have i2 : (sg_sp σ 1 8 z1.2) 2 2 = J s := by rw [sps (by omega)]; exact g4
      rw [e1, Option.bind_some, g1, if_pos (by decide +kernel), i2]
    · unfold f_X9_map
      rw [e2, Option.bind_some, g2, if_pos (by decide +kernel), g5]
    · show Rel (sg_sp σ 1 8 z1.2) tr z2.2 tr
      refine ⟨rfl, T, len, W, H, te, wt, mq, qa, qb, it, tn, ms, sa, sb, m, ca, cb, nf, cd, dn, ?_⟩
      have hn := a.n16
      refine ⟨a.text ⟨f1.1, ?_, fun j hj => ?_⟩ ⟨a.2.1.1, ?_, fun j hj => ?_⟩ (fun q q1 q2 => by funext i; rw [spn (by omega)]) (f2.2 10 (by omega) (by omega) (by omega) (by omega)) (fun q q1 q2 q3 => f2.1 q (by omega) q3), b.cg (fun q q1 q2 => by funext i; rw [spn (by omega)]) (f2.1 4 (by omega) (by omega)) hn, c.cg (by omega) (fun q q1 q2 => by funext i; rw [spn (by omega)]) (f2.1 5 (by omega) (by omega)) (f2.1 6 (by omega) (by omega)) hn, d.cg (by omega) (fun q q1 q2 => by funext i; rw [spn (by omega)]) (f2.1 5 (by omega) (by omega)) (f2.1 6 (by omega) (by omega)) hn⟩
      · rw [sof, sps (by omega)]; exact f1.2.1
      · rw [sof, sps (by omega)]; exact f1.2.2 j hj
      · rw [f2.2 2 (by omega) (by omega) (by omega) (by omega)]; exact a.2.1.2.1
      · rw [f2.1 1 (by omega) (by omega)]; exact a.2.1.2.2 j hj
  · have k8 : Ok (f_X8_map σ tr) (fun z => z.1 = J it' ∧ z.2 2 0 = J 0 ∧ (z.2 9 0 = J W' ∧ z.2 9 1 = J H' ∧ z.2 9 2 = J te' ∧ (∀ i, i < 16 → z.2 10 i = J (wt' i)) ∧ HQ mq' qa' qb' (sg_off z.2 11)) ∧ ∃ m ca cb, NEW W' H' m ca cb z.2) := by
      obtain ⟨h1, h2, h3, h4, h5, h6, h7, h8⟩ := hc
      unfold f_X8_map
      rw [e1, Option.bind_some, g1, if_neg (by decide +kernel), Ok_bind]
      refine (dcopy_ok _ _).mono (fun z3 hz3 => ?_)
      obtain ⟨j1, j2, j3, j4, j5, j6⟩ := hz3
      have ho5 := ho.2.2.2.2.1
      have x1 : z3 0 0 = J W' := by rw [j1, sof, sps (by omega)]; exact h1
      have x2 : z3 0 1 = J H' := by rw [j2, sof, sps (by omega)]; exact h2
      have x3 : z3 0 2 = J te' := by rw [j3, sof, sps (by omega)]; exact h3
      have x4 : ∀ i, i < 16 → z3 1 i = J (wt' i) := fun i hi => by rw [j4 i hi, sof, sps (by omega)]; exact h4 i hi
      have x5 : z3 2 0 = J mq' := by rw [j5, sof, sps (by omega)]; exact h5
      have x6 : ∀ i, i < mq' → z3 3 i = J (qa' i) ∧ z3 4 i = J (qb' i) := fun i hi => by rw [(j6 i (by omega)).1, (j6 i (by omega)).2, sof, sof, sps (by omega), sps (by omega)]; exact h6 i hi
      rw [Ok_bind]
      refine (anew_ok (tr := tr) (W := W') (H := H') ho.1.1 ho.1.2 ho.2.1.1 ho.2.1.2 (by rw [sgn (by omega), sps (by omega)]; exact x1) (by rw [sgn (by omega), sps (by omega)]; exact x2)).mono (fun z4 hz4 => ?_)
      obtain ⟨hn, hq⟩ := hz4
      rw [Ok_some]
      refine ⟨?_, ?_, ⟨?_, ?_, ?_, fun i hi => ?_, ?_, fun i hi => ?_⟩, hn⟩
      · dsimp only; rw [hq 1 (by omega), sgn (by omega), spn (by omega), sps (by omega)]; exact h7
      · dsimp only; rw [hq 2 (by omega), sgs, if_pos rfl]; rfl
      · dsimp only; rw [hq 9 (by omega), sgn (by omega), sps (by omega)]; exact x1
      · dsimp only; rw [hq 9 (by omega), sgn (by omega), sps (by omega)]; exact x2
      · dsimp only; rw [hq 9 (by omega), sgn (by omega), sps (by omega)]; exact x3
      · dsimp only; rw [hq 10 (by omega), sgn (by omega), sps (by omega)]; exact x4 i hi
      · dsimp only; rw [sof, hq (11 + 0) (by omega), sgn (by omega), sps (by omega)]; exact x5
      · dsimp only; rw [sof, sof, hq (11 + 1) (by omega), hq (11 + 2) (by omega), sgn (by omega), sgn (by omega), sps (by omega), sps (by omega)]; exact x6 i hi
    obtain ⟨o1, q1, q2, q3, q4, m', ca', cb', q5⟩ := k8
    obtain ⟨o2, r1, r2, r3, r4, r5, r6, r7, r8⟩ := ref_new z2.2
    refine ⟨o1, o2, q1, ?_, ?_, Rel_new ho q3 q4 q5 (hr.cg ho.2.2.2.2.1 r3) r8 r7 r4 r5 r6⟩
    · unfold f_X9_map
      rw [e2, Option.bind_some, g2, if_neg (by decide +kernel)]; exact r1
    · rw [q2, r2]; exact hr.2.2.2.2.1.symm
theorem reads9_ok {T : Nat → Int} {len : Nat} {μ : Sg} {tr : Int64} {P : Int32 × Sg → Prop} (h9 : H9T T len μ) (hk : ∀ y μ', H9T T len μ' → TK T len 0 μ' y → RFr μ y → RDr 3 2 3 (fun _ => 1) 0 (fun _ => 0) (fun _ => 0) 0 0 (y 3) → Ok (lc1 (s_X9_reads_66 tr) 1000 y) P) : Ok (f_X9_reads μ tr) P := by
  have hl := h9.1
  unfold f_X9_reads
  rw [show (0 : Int32) = J ((0 : Nat) : Int) from by decide]
  refine Ok_for2 35 (fun k g => (∀ q, q ≠ 3 → g q = μ q) ∧ ∀ i, i < k → g 3 i = J (if 6 ≤ i ∧ i ≤ 21 then 1 else 0)) (fun k g κ hk hi hκ => ?_) (fun g κ hi => ?_) 1000 0 _ (by omega) (by omega) ⟨fun _ _ => rfl, fun i hi => by omega⟩
  · obtain ⟨a1, a2⟩ := hi
    have ik : (J (k : Int)).toNatClampNeg = k := by rw [jcl (by omega)]; omega
    unfold s_X9_reads_2
    rw [L35, if_neg (by rw [jle (by omega) (by omega)]; omega), L6, L21, in_eq (by omega) (by omega) (by omega), Option.bind_some]
    by_cases q : 6 ≤ k ∧ k ≤ 21
    · rw [if_pos (show (6 : Int) ≤ (k : Int) ∧ (k : Int) ≤ 21 by omega), if_neg (by decide +kernel)]
      unfold j_X9_reads_2
      rw [chk_J (by omega), ik, L1, J_add]
      refine hκ _ ⟨fun q' hq => by funext i; rw [sgn hq]; rw [a1 q' hq], fun i hi => ?_⟩
      rw [sgs]
      by_cases e : i = k
      · rw [if_pos e, e, if_pos q]
      · rw [if_neg e]; exact a2 i (by omega)
    · rw [if_neg (show ¬ ((6 : Int) ≤ (k : Int) ∧ (k : Int) ≤ 21) by omega), if_pos (by decide +kernel)]
      unfold j_X9_reads_2
      rw [chk_J (by omega), ik, L1, J_add, L0]
      refine hκ _ ⟨fun q' hq => by funext i; rw [sgn hq]; rw [a1 q' hq], fun i hi => ?_⟩
      rw [sgs]
      by_cases e : i = k
      · rw [if_pos e, e, if_neg q]
      · rw [if_neg e]; exact a2 i (by omega)
  · obtain ⟨a1, a2⟩ := hi
    obtain ⟨y0, y1, y2, y3, y4, y5⟩ := z35
    unfold s_X9_reads_2 j_X9_reads_1
    rw [L35, if_pos (by rw [jle (by omega) (by omega)]; omega), L0, L1, L2, L3, chk_J (by omega), chk_J (by omega), chk_J (by omega), y0, y1, y2, Ok_bind]
    have e9 : H9T T len (sg_st (sg_st (sg_st (sg_st g 3 0 (J 3)) 3 1 (J 2)) 3 2 (J 3)) 0 11 (J 0)) := ⟨hl, by rw [sgs, if_neg (by omega), sgn (by omega), sgn (by omega), sgn (by omega), a1 0 (by omega)]; exact h9.2.1, fun j hj => by rw [sgn (by omega), sgn (by omega), sgn (by omega), sgn (by omega), a1 1 (by omega)]; exact h9.2.2 j hj⟩
    have er : RFr μ (sg_st (sg_st (sg_st (sg_st g 3 0 (J 3)) 3 1 (J 2)) 3 2 (J 3)) 0 11 (J 0)) := ⟨fun q a b => by funext i; rw [sgn a, sgn b, sgn b, sgn b, a1 q b], fun i a _ _ _ => by rw [sgs, if_neg a, sgn (by omega), sgn (by omega), sgn (by omega), a1 0 (by omega)]⟩
    refine (token9_ok (tr := tr) e9 (p := 0) (by omega) (by rw [sgs, if_pos rfl]; rfl)).mono (fun y hy => ?_)
    refine hk y _ e9 hy (er.tk hy) ?_
    rw [hy.1 3 (by omega)]
    refine ⟨?_, ?_, ?_, ?_, ?_, ?_, fun i hi => ?_, fun i hi => by omega⟩
    · rw [sgn (by omega), sgs, if_neg (by omega), sgs, if_neg (by omega), sgs, if_pos rfl]; rfl
    · rw [sgn (by omega), sgs, if_neg (by omega), sgs, if_pos rfl]; rfl
    · rw [sgn (by omega), sgs, if_pos rfl]
    · rw [sgn (by omega), sgs, if_neg (by omega), sgs, if_neg (by omega), sgs, if_neg (by omega), a2 3 (by omega), if_neg (by omega)]; rfl
    · rw [sgn (by omega), sgs, if_neg (by omega), sgs, if_neg (by omega), sgs, if_neg (by omega), a2 4 (by omega), if_neg (by omega)]; rfl
    · rw [sgn (by omega), sgs, if_neg (by omega), sgs, if_neg (by omega), sgs, if_neg (by omega), a2 5 (by omega), if_neg (by omega)]; rfl
    · rw [sgn (by omega), sgs, if_neg (by omega), sgs, if_neg (by omega), sgs, if_neg (by omega), a2 (6 + i) (by omega), if_pos (by omega)]
theorem init9_ok : Ok f_X9_init (fun z => RDr 3 2 3 (fun _ => 1) 0 (fun _ => 0) (fun _ => 0) 0 0 (z 2) ∧ z 0 2 = J 0 ∧ z 0 10 = J 0 ∧ z 4 = sgz 4 ∧ z 6 = sgz 6) := by
  have t9 : H9T (fun _ => 0) 0 sgz := ⟨by omega, rfl, fun j hj => by omega⟩
  unfold f_X9_init
  rw [Ok_bind]
  refine reads9_ok t9 (fun y μ' h' hy hr hd => ?_)
  obtain ⟨s1, s2⟩ := tS_pr (fun _ => 0) 0 (p := 0) (by omega)
  have k0 : tK (fun _ => 0) 0 0 = 0 := by unfold tK; rw [if_pos (by omega)]
  show Ok (s_X9_reads_66 0 y _) _
  unfold s_X9_reads_66
  rw [hy.2.2.2.1, k0, if_pos (by decide +kernel), Ok_some]
  dsimp only
  rw [show (0 : Int32) = J ((0 : Nat) : Int) from by decide]
  refine Ok_for2 35 (fun k g => (∀ q, q ≠ 2 → g q = y q) ∧ ∀ i, i < k → g 2 i = y 3 i) (fun k g κ hk hi hκ => ?_) (fun g κ hi => ?_) 1000 0 _ (by omega) (by omega) ⟨fun _ _ => rfl, fun i hi => by omega⟩
  · obtain ⟨a1, a2⟩ := hi
    have ik : (J (k : Int)).toNatClampNeg = k := by rw [jcl (by omega)]; omega
    unfold s_X9_init_108
    rw [L35, if_neg (by rw [jle (by omega) (by omega)]; omega), chk_J (by omega), chk_J (by omega), ik, L1, J_add]
    refine hκ _ ⟨fun q hq => by funext i; rw [sgn hq, a1 q hq], fun i hi => ?_⟩
    rw [sgs]
    by_cases e : i = k
    · rw [if_pos e, e, a1 3 (by omega)]
    · rw [if_neg e]; exact a2 i (by omega)
  · obtain ⟨a1, a2⟩ := hi
    unfold s_X9_init_108
    rw [L35, if_pos (by rw [jle (by omega) (by omega)]; omega), Ok_some]
    refine ⟨hd.cg (by omega) a2, ?_, ?_, ?_, ?_⟩
    · rw [a1 0 (by omega), hr.2 2 (by omega) (by omega) (by omega) (by omega)]; rfl
    · rw [a1 0 (by omega), hr.2 10 (by omega) (by omega) (by omega) (by omega)]; rfl
    · rw [a1 4 (by omega), hr.1 4 (by omega) (by omega)]
    · rw [a1 6 (by omega), hr.1 6 (by omega) (by omega)]
theorem law_init : LawInit Rel := by
  obtain ⟨w, ew, w1, w2, w3, w4, w5⟩ := asFirst_ok sgz
  obtain ⟨μ, e9, r1, r2, r3, r4, r5⟩ := init9_ok
  have i1 : f_X1_init = some w := by unfold f_X1_init; rw [ew, Option.bind_some]
  have i6 : f_X6_init = some (sg_sp sgz 3 5 w) := by unfold f_X6_init; rw [i1, Option.bind_some]
  have x0 : (sg_sp (sg_sp sgz 1 8 (sg_sp sgz 3 5 w)) 9 5 w) 9 0 = J ((3 : Nat) : Int) := by rw [sps (by omega)]; exact w1
  have x1 : (sg_sp (sg_sp sgz 1 8 (sg_sp sgz 3 5 w)) 9 5 w) 9 1 = J ((2 : Nat) : Int) := by rw [sps (by omega)]; exact w2
  obtain ⟨z, ez, ⟨m, ca, cb, hn⟩, hq⟩ := anew_ok (tr := 0) (by omega) (by omega) (by omega) (by omega) x0 x1
  have ho : OKd 3 2 3 (fun _ => 1) 0 (fun _ => 0) (fun _ => 0) 0 0 := ⟨by omega, by omega, by omega, fun i hi => by dsimp only; omega, by omega, fun i hi => by omega, by omega, fun _ => rfl⟩
  refine ⟨z, μ, ?_, e9, Rel_new ho ?_ ⟨?_, ?_, ?_, fun i hi => ?_, ?_, fun i hi => by omega⟩ hn r1 r2 r3 (fun i _ => by rw [r4]; rfl) (by rw [r5]; rfl) (by rw [r5]; rfl)⟩
  · unfold f_X8_init
    rw [i6, Option.bind_some, i1, Option.bind_some, ez, Option.bind_some]
  · rw [hq 2 (by omega), spn (by omega), sps (by omega), spn (by omega)]; rfl
  · rw [hq 9 (by omega)]; exact x0
  · rw [hq 9 (by omega)]; exact x1
  · rw [hq 9 (by omega), sps (by omega)]; exact w3
  · rw [hq 10 (by omega), sps (by omega)]; exact w4 i hi
  · rw [sof, hq (11 + 0) (by omega), sps (by omega)]; exact w5
theorem law_steps : LawSteps Rel := ⟨st_type, st_clear, st_map, st_cell, sq_at, st_fold, st_undo, st_day, st_bent, st_touch, st_packet, st_reach, st_serves, st_saw, st_forget, st_fits, st_rate, st_keep, st_back, st_count, st_trace⟩
