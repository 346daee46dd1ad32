/-! ===== the steps: images, creases ===== -/
theorem keep9_ok {μ : Sg} {tm : Int64} {im : Nat} (him : im < 2) : Ok (f_X9_keep μ tm (J im)) (fun z => z.1 = μ 4 0 ∧ (∀ q, q ≠ 5 → q ≠ 6 → z.2 q = μ q) ∧ (∀ i, i < 40 → z.2 5 (40 * im + i) = μ 4 i) ∧ (∀ i, i < 80 → ¬ (40 * im ≤ i ∧ i < 40 * im + 40) → z.2 5 i = μ 5 i) ∧ z.2 6 im = J 1 ∧ ∀ i, i ≠ im → z.2 6 i = μ 6 i) := by
  have i9 : f_X9_in (J im) 0 1 = some (J (if 0 ≤ (im : Int) ∧ (im : Int) ≤ 1 then 1 else 0)) := by rw [L0, L1]; exact in_eq (by omega) (by omega) (by omega)
  have iim : (J (im : Int)).toNatClampNeg = im := by rw [jcl (by omega)]; omega
  unfold f_X9_keep
  rw [i9, Option.bind_some, if_pos (show 0 ≤ (im : Int) ∧ (im : Int) ≤ 1 by omega), if_neg (by decide +kernel), show (0 : Int32) = J ((0 : Nat) : Int) from by decide +kernel]
  refine Ok_for2 40 (fun k g => (∀ q, q ≠ 5 → g q = μ q) ∧ (∀ i, i < k → g 5 (40 * im + i) = μ 4 i) ∧ ∀ i, i < 80 → ¬ (40 * im ≤ i ∧ i < 40 * im + k) → g 5 i = μ 5 i) (fun k g κ hk hi hκ => ?_) (fun g κ hi => ?_) 1000 0 _ (by omega) (by omega) ⟨fun _ _ => rfl, fun i hi => by omega, fun _ _ _ => rfl⟩
  · obtain ⟨a1, a2, a3⟩ := hi
    have ik : (J (k : Int)).toNatClampNeg = k := by rw [jcl (by omega)]; omega
    have i4 : (J (40 * (im : Int) + k)).toNatClampNeg = 40 * im + k := by rw [jcl (by omega)]; omega
    unfold s_X9_keep_13
    rw [if_neg (by rw [L40, jle (by omega) (by omega)]; omega), chk_J (by omega), L40, J_mul, J_add, chk_J (by omega), ik, i4, L1, J_add, a1 4 (by omega)]
    refine hκ _ ⟨fun q hq => by funext i; rw [sgn hq, a1 q hq], fun i hi => ?_, fun i hi h2 => ?_⟩
    · rw [sgs]
      by_cases e : i = k
      · rw [if_pos (by omega), e]
      · rw [if_neg (by omega), a2 i (by omega)]
    · rw [sgs, if_neg (by omega), a3 i hi (by omega)]
  · obtain ⟨a1, a2, a3⟩ := hi
    unfold s_X9_keep_13 j_X9_keep_1
    have y0 : (0 : Int32).toNatClampNeg = 0 := by decide
    rw [if_pos (by decide +kernel), chk_J (by omega), y0, L0, chk_J (by omega), iim, L1, nar1, Ok_some]
    refine ⟨by dsimp only; rw [sgn (by omega), a1 4 (by omega)], fun q q1 q2 => by funext i; dsimp only; rw [sgn q2, a1 q q1], fun i hi => by dsimp only; rw [sgn (by omega), a2 i hi], fun i hi h2 => by dsimp only; rw [sgn (by omega), a3 i hi h2], by dsimp only; rw [sgs, if_pos rfl], fun i hi => by dsimp only; rw [sgs, if_neg hi, a1 6 (by omega)]⟩
theorem isImage_eq {x : Int} (hx : -2147483648 ≤ x ∧ x ≤ 2147483647) : f_X8_isImage (J x) = some (J (if 0 ≤ x ∧ x ≤ 1 then 1 else 0)) := by
  unfold f_X8_isImage
  simp (disch := omega) only [L0, L1, L2, jlt, jle]
  (repeat' split) <;> first | rfl | (exfalso; omega)
theorem keep8_ok {σ : Sg} {tr : Int64} {im : Nat} (him : im < 2) : Ok (f_X8_keep σ tr (J im)) (fun z => z.1 = σ 30 1 ∧ (∀ q, ¬ (34 + 3 * im ≤ q ∧ q < 37 + 3 * im) → z.2 q = σ q) ∧ z.2 (34 + 3 * im) 0 = J 1 ∧ z.2 (34 + 3 * im) 1 = σ 30 1 ∧ z.2 (34 + 3 * im) 2 = σ 30 2 ∧ (∀ i, i < 6 → z.2 (34 + 3 * im + 1) i = σ 31 i) ∧ ∀ i, i < 24 → z.2 (34 + 3 * im + 2) i = σ 32 i) := by
  unfold f_X8_keep
  rw [isImage_eq (by omega), Option.bind_some, if_pos (show 0 ≤ (im : Int) ∧ (im : Int) ≤ 1 by omega), if_neg (by decide +kernel)]
  rcases (show im = 0 ∨ im = 1 by omega) with g | g <;> subst g
  · rw [if_pos (by decide +kernel), Ok_bind]
    refine (mcopy_ok (sg_off σ 34) (sg_off σ 30)).mono (fun z hz => ?_)
    obtain ⟨h0, h1, h2, h3, h4⟩ := hz
    unfold j_X8_keep_1 j_X8_keep_2
    rw [if_pos (by decide +kernel), Ok_some, L1]
    refine ⟨?_, fun q hq => ?_, ?_, ?_, ?_, fun i hi => ?_, fun i hi => ?_⟩
    · dsimp only; rw [sgn (by omega), spn (by omega)]
    · funext i; dsimp only; rw [sgn (by omega), spn (by omega)]
    · dsimp only; rw [sgs, if_pos rfl]
    · dsimp only; rw [sgs, if_neg (by omega), sps (by omega)]; exact h1
    · dsimp only; rw [sgs, if_neg (by omega), sps (by omega)]; exact h2
    · dsimp only; rw [sgn (by omega), sps (by omega)]; exact h3 i hi
    · dsimp only; rw [sgn (by omega), sps (by omega)]; exact h4 i hi
  · rw [if_neg (by decide +kernel), if_pos (by decide +kernel), Ok_bind]
    refine (mcopy_ok (sg_off σ 37) (sg_off σ 30)).mono (fun z hz => ?_)
    obtain ⟨h0, h1, h2, h3, h4⟩ := hz
    unfold j_X8_keep_1 j_X8_keep_2
    rw [if_neg (by decide +kernel), if_pos (by decide +kernel), Ok_some, L1]
    refine ⟨?_, fun q hq => ?_, ?_, ?_, ?_, fun i hi => ?_, fun i hi => ?_⟩
    · dsimp only; rw [sgn (by omega), spn (by omega)]
    · funext i; dsimp only; rw [sgn (by omega), spn (by omega)]
    · dsimp only; rw [sgs, if_pos rfl]
    · dsimp only; rw [sgs, if_neg (by omega), sps (by omega)]; exact h1
    · dsimp only; rw [sgs, if_neg (by omega), sps (by omega)]; exact h2
    · dsimp only; rw [sgn (by omega), sps (by omega)]; exact h3 i hi
    · dsimp only; rw [sgn (by omega), sps (by omega)]; exact h4 i hi
theorem RI.keep {W H m : Nat} {ca cb : Nat → Nat} {b o im : Nat} {σ μ σ' μ' : Sg} (h : RI W H m ca cb b o im σ μ) (e : ∀ q, b ≤ q → q < b + 3 → σ' q = σ q) (f5 : ∀ i, i < 40 → μ' 5 (o + i) = μ 5 (o + i)) (f6 : μ' 6 im = μ 6 im) (hn : W * H ≤ 16) : RI W H m ca cb b o im σ' μ' := by
  unfold RI
  rw [e b (by omega) (by omega), f6]
  rcases h with h | ⟨h1, h2, nf, cd, dn, h3⟩
  · exact Or.inl h
  · exact Or.inr ⟨h1, h2, nf, cd, dn, h3.cong (by rw [e b (by omega) (by omega)]) (by rw [e b (by omega) (by omega)]) (e _ (by omega) (by omega)) (e _ (by omega) (by omega)) f5 hn⟩
theorem st_keep : LS_keep Rel := by
  intro σ tr μ tm h p1
  have h' := h
  obtain ⟨e, T, len, W, H, te, wt, mq, qa, qb, it, tn, ms, sa, sb, m, ca, cb, nf, cd, dn, a, b, c, d⟩ := h
  obtain ⟨x, rfl, hx⟩ := j_of p1
  have hn := a.n16
  have hm := a.2.2.2.2.2.2.2.2.1
  by_cases q : 0 ≤ x ∧ x ≤ 1
  · obtain ⟨im, rfl⟩ := Int.eq_ofNat_of_zero_le q.1
    have him : im < 2 := by omega
    obtain ⟨z, z0, z1, z2, z3, z4, z5, z6, z7⟩ := keep8_ok (σ := σ) (tr := tr) him
    obtain ⟨y, w0, w1, w2, w3, w4, w5, w6⟩ := keep9_ok (μ := μ) (tm := tm) him
    have mo : MOp W H m ca cb (34 + 3 * im) 5 (40 * im) z.2 y.2 nf cd dn := b.1.copy hm hn z4 z5 z6 z7 (fun i hi => by rw [w3 i hi, Nat.zero_add])
    refine ⟨z, y, z0, w0, by rw [z1, w1]; exact b.1.2.2.1, e, T, len, W, H, te, wt, mq, qa, qb, it, tn, ms, sa, sb, m, ca, cb, nf, cd, dn, ?_, ?_, ?_, ?_⟩
    · exact a.c8 (fun q hq => z2 q (by omega)) (fun q q1 q2 => z2 q (by omega)) (a.2.2.2.2.2.2.2.cong (by unfold sg_off; exact z2 _ (by omega)) (by unfold sg_off; exact z2 _ (by omega)) (by unfold sg_off; exact z2 _ (by omega))) (w2 0 (by omega) (by omega)) (fun q hq => w2 q (by omega) (by omega))
    · exact b.cg (fun q q1 q2 => z2 q (by omega)) (w2 4 (by omega) (by omega)) hn
    · by_cases g : im = 0
      · subst g; exact Or.inr ⟨z3, w5, nf, cd, dn, mo⟩
      · exact c.keep (fun q q1 q2 => z2 q (by omega)) (fun i hi => w4 _ (by omega) (by omega)) (w6 0 (by omega)) hn
    · by_cases g : im = 1
      · subst g; exact Or.inr ⟨z3, w5, nf, cd, dn, mo⟩
      · exact d.keep (fun q q1 q2 => z2 q (by omega)) (fun i hi => w4 _ (by omega) (by omega)) (w6 1 (by omega)) hn
  · refine ⟨(-1, σ), (-1, μ), ?_, ?_, rfl, h'⟩
    · unfold f_X8_keep
      rw [isImage_eq hx, if_neg q, Option.bind_some, if_pos (by decide +kernel)]
    · unfold f_X9_keep
      rw [show f_X9_in (J x) 0 1 = some (J (if 0 ≤ x ∧ x ≤ 1 then 1 else 0)) from by rw [L0, L1]; exact in_eq hx (by omega) (by omega), if_neg q, Option.bind_some, if_pos (by decide +kernel)]
theorem back9_ok {μ : Sg} {tm : Int64} {im : Nat} (him : im < 2) (hk : μ 6 im = J 1) : Ok (f_X9_back μ tm (J im)) (fun z => z.1 = μ 5 (40 * im) ∧ (∀ q, q ≠ 4 → z.2 q = μ q) ∧ ∀ i, i < 40 → z.2 4 i = μ 5 (40 * im + i)) := by
  have i9 : f_X9_in (J im) 0 1 = some (J (if 0 ≤ (im : Int) ∧ (im : Int) ≤ 1 then 1 else 0)) := by rw [L0, L1]; exact in_eq (by omega) (by omega) (by omega)
  have iim : (J (im : Int)).toNatClampNeg = im := by rw [jcl (by omega)]; omega
  unfold f_X9_back
  rw [i9, Option.bind_some, if_pos (show 0 ≤ (im : Int) ∧ (im : Int) ≤ 1 by omega), if_neg (by decide +kernel), chk_J (by omega), iim, hk, if_neg (by decide +kernel), show (0 : Int32) = J ((0 : Nat) : Int) from by decide +kernel]
  refine Ok_for2 40 (fun k g => (∀ q, q ≠ 4 → g q = μ q) ∧ (∀ i, i < k → g 4 i = μ 5 (40 * im + i))) (fun k g κ hk hi hκ => ?_) (fun g κ hi => ?_) 1000 0 _ (by omega) (by omega) ⟨fun _ _ => rfl, fun i hi => by omega⟩
  · obtain ⟨a1, a2⟩ := hi
    have ik : (J (k : Int)).toNatClampNeg = k := by rw [jcl (by omega)]; omega
    have i4 : (J (40 * (im : Int) + k)).toNatClampNeg = 40 * im + k := by rw [jcl (by omega)]; omega
    unfold s_X9_back_25
    rw [if_neg (by rw [L40, jle (by omega) (by omega)]; omega), L40, J_mul, J_add, chk_J (by omega), chk_J (by omega), ik, i4, L1, J_add, a1 5 (by omega)]
    refine hκ _ ⟨fun q hq => by funext i; rw [sgn hq, a1 q hq], fun i hi => ?_⟩
    rw [sgs]
    by_cases e : i = k
    · rw [if_pos e, e]
    · rw [if_neg e, a2 i (by omega)]
  · obtain ⟨a1, a2⟩ := hi
    unfold s_X9_back_25 j_X9_back_1
    have y0 : (0 : Int32).toNatClampNeg = 0 := by decide
    rw [if_pos (by decide +kernel), y0, L0, chk_J (by omega), Ok_some]
    exact ⟨a2 0 (by omega), a1, a2⟩
theorem st_back : LS_back Rel := by
  intro σ tr μ tm h p1
  have h' := h
  obtain ⟨e, T, len, W, H, te, wt, mq, qa, qb, it, tn, ms, sa, sb, m, ca, cb, nf, cd, dn, a, b, c, d⟩ := h
  obtain ⟨x, rfl, hx⟩ := j_of p1
  have hn := a.n16
  have hc := a.2.2.2.2.2.2.2
  have hm := hc.2.1
  obtain ⟨⟨o1, o2⟩, ⟨o3, o4⟩, -⟩ := a.2.2.1
  have i9 : f_X9_in (J x) 0 1 = some (J (if 0 ≤ x ∧ x ≤ 1 then 1 else 0)) := by rw [L0, L1]; exact in_eq hx (by omega) (by omega)
  by_cases q : 0 ≤ x ∧ x ≤ 1
  · obtain ⟨im, rfl⟩ := Int.eq_ofNat_of_zero_le q.1
    have him : im < 2 := by omega
    have iim : (J (im : Int)).toNatClampNeg = im := by rw [jcl (by omega)]; omega
    have ri : RI W H m ca cb (34 + 3 * im) (40 * im) im σ μ := by
      rcases (show im = 0 ∨ im = 1 by omega) with g | g <;> subst g
      · exact c
      · exact d
    have red : f_X8_back σ tr (J im) = j_X8_back_1 σ tr (J im) (σ (34 + 3 * im) 0) := by
      unfold f_X8_back
      rw [isImage_eq hx, if_pos q, Option.bind_some, if_neg (by decide +kernel)]
      rcases (show im = 0 ∨ im = 1 by omega) with g | g <;> subst g
      · rw [if_pos (by decide +kernel)]
      · rw [if_neg (by decide +kernel), if_pos (by decide +kernel)]
    rcases ri with ⟨k1, k2⟩ | ⟨k1, k2, nf', cd', dn', mo⟩
    · refine ⟨(-2, σ), (-2, μ), ?_, ?_, rfl, h'⟩
      · rw [red, k1]
        unfold j_X8_back_1
        rw [if_pos (by decide +kernel)]
      · unfold f_X9_back
        rw [i9, if_pos q, Option.bind_some, if_neg (by decide +kernel), chk_J (by omega), iim, k2, if_pos (by decide +kernel)]
    · have mo' := mo
      obtain ⟨a1, a2, a3, a4, a5, a6, a7, a8, a9⟩ := mo
      have fin : ∀ z8 : Sg, z8 0 1 = σ (34 + 3 * im) 1 → z8 0 2 = σ (34 + 3 * im) 2 → (∀ i, i < 6 → z8 1 i = σ (34 + 3 * im + 1) i) → (∀ i, i < 24 → z8 2 i = σ (34 + 3 * im + 2) i) → Ok (j_X8_back_2 tr (sg_sp σ 30 3 z8)) (fun z => z.1 = σ (34 + 3 * im) 1 ∧ z.2 30 1 = σ (34 + 3 * im) 1 ∧ z.2 30 2 = σ (34 + 3 * im) 2 ∧ (∀ i, i < 6 → z.2 31 i = σ (34 + 3 * im + 1) i) ∧ (∀ i, i < 24 → z.2 32 i = σ (34 + 3 * im + 2) i) ∧ HP (W * H) (FS W H cd' nf') (sg_off z.2 20) ∧ HC W (W * H) m ca cb (sg_off z.2 26) ∧ HV (Bt W H cd' dn' nf') m ca cb (z.2 29) ∧ ∀ q, ¬ (20 ≤ q ∧ q < 26) → q ≠ 29 → ¬ (30 ≤ q ∧ q < 33) → z.2 q = σ q) := by
        intro z8 g1 g2 g3 g4
        have t1 : (sg_sp σ 30 3 z8) 30 1 = σ (34 + 3 * im) 1 := by rw [sps (by omega)]; exact g1
        have t2 : (sg_sp σ 30 3 z8) 30 2 = σ (34 + 3 * im) 2 := by rw [sps (by omega)]; exact g2
        have t3 : ∀ i, i < 6 → (sg_sp σ 30 3 z8) 31 i = σ (34 + 3 * im + 1) i := fun i hi => by rw [sps (by omega)]; exact g3 i hi
        have t4 : ∀ i, i < 24 → (sg_sp σ 30 3 z8) 32 i = σ (34 + 3 * im + 2) i := fun i hi => by rw [sps (by omega)]; exact g4 i hi
        have t5 : ∀ q, ¬ (30 ≤ q ∧ q < 33) → (sg_sp σ 30 3 z8) q = σ q := fun q hq => by funext i; rw [spn (by omega)]
        generalize sg_sp σ 30 3 z8 = s1 at *
        unfold j_X8_back_2
        rw [Ok_bind]
        refine (tells_ok (tr := tr) (cd := cd') (dn := dn') (nf := nf') o1 o2 o3 o4 (a.2.2.2.2.2.2.1.cong (fun q hq => by unfold sg_off; exact t5 _ (by omega))) (hc.cong (by unfold sg_off; exact t5 _ (by omega)) (by unfold sg_off; exact t5 _ (by omega)) (by unfold sg_off; exact t5 _ (by omega))) a1 a2 (by rw [t2]; exact a4) (fun k hk => by rw [t3 k (by omega)]; exact (a6 k hk).1) (fun i hi => by rw [t4 i (by omega)]; exact a7 i hi)).mono (fun z hz => ?_)
        obtain ⟨z1, z2, z3, z4⟩ := hz
        rw [Ok_some]
        refine ⟨by dsimp only; rw [z4 30 (by omega) (by omega)]; exact t1, by dsimp only; rw [z4 30 (by omega) (by omega)]; exact t1, by dsimp only; rw [z4 30 (by omega) (by omega)]; exact t2, fun i hi => by dsimp only; rw [z4 31 (by omega) (by omega)]; exact t3 i hi, fun i hi => by dsimp only; rw [z4 32 (by omega) (by omega)]; exact t4 i hi, z1, z2, z3, fun q q1 q2 q3 => by dsimp only; rw [z4 q q1 q2]; exact t5 q q3⟩
      have k8 : Ok (f_X8_back σ tr (J im)) (fun z => z.1 = σ (34 + 3 * im) 1 ∧ z.2 30 1 = σ (34 + 3 * im) 1 ∧ z.2 30 2 = σ (34 + 3 * im) 2 ∧ (∀ i, i < 6 → z.2 31 i = σ (34 + 3 * im + 1) i) ∧ (∀ i, i < 24 → z.2 32 i = σ (34 + 3 * im + 2) i) ∧ HP (W * H) (FS W H cd' nf') (sg_off z.2 20) ∧ HC W (W * H) m ca cb (sg_off z.2 26) ∧ HV (Bt W H cd' dn' nf') m ca cb (z.2 29) ∧ ∀ q, ¬ (20 ≤ q ∧ q < 26) → q ≠ 29 → ¬ (30 ≤ q ∧ q < 33) → z.2 q = σ q) := by
        rw [red, k1]
        unfold j_X8_back_1
        rw [if_neg (by decide +kernel)]
        rcases (show im = 0 ∨ im = 1 by omega) with g | g <;> subst g
        · rw [if_pos (by decide +kernel), Ok_bind]
          refine (mcopy_ok (sg_off σ 30) (sg_off σ 34)).mono (fun z hz => ?_)
          exact fin z hz.2.1 hz.2.2.1 hz.2.2.2.1 hz.2.2.2.2
        · rw [if_neg (by decide +kernel), if_pos (by decide +kernel), Ok_bind]
          refine (mcopy_ok (sg_off σ 30) (sg_off σ 37)).mono (fun z hz => ?_)
          exact fin z hz.2.1 hz.2.2.1 hz.2.2.2.1 hz.2.2.2.2
      obtain ⟨z, z0, z1, z2, z3, z4, z5, z6, z7, z8, z9⟩ := k8
      obtain ⟨y, w0, w1, w2, w3⟩ := back9_ok (μ := μ) (tm := tm) him k2
      have mo2 : MOp W H m ca cb 30 4 0 z.2 y.2 nf' cd' dn' := mo'.copy hm hn z2 z3 z4 z5 (fun i hi => by rw [Nat.zero_add]; exact w3 i hi)
      refine ⟨z, y, z0, w0, by rw [z1, w1]; exact a3, e, T, len, W, H, te, wt, mq, qa, qb, it, tn, ms, sa, sb, m, ca, cb, nf', cd', dn', ?_, ⟨mo2, z6, z8⟩, ?_, ?_⟩
      · exact a.c8 (fun q hq => z9 q (by omega) (by omega) (by omega)) (fun q q1 q2 => z9 q (by omega) (by omega) (by omega)) z7 (w2 0 (by omega)) (fun q hq => w2 q (by omega))
      · exact c.cg (by omega) (fun q q1 q2 => z9 q (by omega) (by omega) (by omega)) (w2 5 (by omega)) (w2 6 (by omega)) hn
      · exact d.cg (by omega) (fun q q1 q2 => z9 q (by omega) (by omega) (by omega)) (w2 5 (by omega)) (w2 6 (by omega)) hn
  · refine ⟨(-1, σ), (-1, μ), ?_, ?_, rfl, h'⟩
    · unfold f_X8_back
      rw [isImage_eq hx, if_neg q, Option.bind_some, if_pos (by decide +kernel)]
    · unfold f_X9_back
      rw [i9, if_neg q, Option.bind_some, if_pos (by decide +kernel)]
