/-! ===== the steps: days, folds undone, images, creases ===== -/
theorem Bt_mono {W H : Nat} {cd : Nat → Nat} {dn : Nat → Nat → Int} (a b : Nat) : ∀ k, dn a b ≤ Bt W H cd dn k a b
  | 0 => Int.le_refl _
  | k + 1 => by
    have := Bt_mono (W := W) (H := H) (cd := cd) (dn := dn) a b k
    show dn a b ≤ Bt W H cd dn k a b + _
    split <;> omega
theorem Bt_step {W H : Nat} {cd : Nat → Nat} {dn : Nat → Nat → Int} (k a b : Nat) : Bt W H cd dn k a b ≤ Bt W H cd dn (k + 1) a b := by
  show _ ≤ Bt W H cd dn k a b + _
  split <;> omega
theorem MOp.copy {W H m : Nat} {ca cb : Nat → Nat} {b q o b' q' o' : Nat} {σ μ σ' μ' : Sg} {nf : Nat} {cd : Nat → Nat} {dn : Nat → Nat → Int} (h : MOp W H m ca cb b q o σ μ nf cd dn) (hm : m ≤ 24) (hn : W * H ≤ 16) (h1 : σ' b' 1 = σ b 1) (h2 : σ' b' 2 = σ b 2) (h3 : ∀ i, i < 6 → σ' (b' + 1) i = σ (b + 1) i) (h4 : ∀ i, i < 24 → σ' (b' + 2) i = σ (b + 2) i) (h5 : ∀ i, i < 40 → μ' q' (o' + i) = μ q (o + i)) : MOp W H m ca cb b' q' o' σ' μ' nf cd dn := by
  obtain ⟨a1, a2, a3, a4, a5, a6, a7, a8, a9⟩ := h
  have m0 : μ' q' o' = μ q o := h5 0 (by omega)
  refine ⟨a1, a2, by rw [h1, m0]; exact a3, by rw [h2]; exact a4, by rw [h5 1 (by omega)]; exact a5, fun k hk => ⟨by rw [h3 k (by omega)]; exact (a6 k hk).1, by rw [Nat.add_assoc, h5 (2 + k) (by omega), ← Nat.add_assoc]; exact (a6 k hk).2⟩, fun i hi => by rw [h4 i (by omega)]; exact a7 i hi, fun c way hc hw he => ?_, a9⟩
  have := a8 c way hc hw he
  rw [show o + 8 + 16 * way + c = o + (8 + 16 * way + c) by omega] at this
  rw [show o' + 8 + 16 * way + c = o' + (8 + 16 * way + c) by omega, h5 _ (by omega)]; exact this
theorem RS.c8 {T : Nat → Int} {len W H : Nat} {te : Int} {wt : Nat → Int} {mq : Nat} {qa qb : Nat → Nat} {it tn ms : Nat} {sa sb : Nat → Nat} {m : Nat} {ca cb : Nat → Nat} {σ μ σ' μ' : Sg} (h : RS T len W H te wt mq qa qb it tn ms sa sb m ca cb σ μ) (e : ∀ q, q < 20 → σ' q = σ q) (e2 : ∀ q, 40 ≤ q → q < 43 → σ' q = σ q) (hc : HC W (W * H) m ca cb (sg_off σ' 26)) (f0 : μ' 0 = μ 0) (f : ∀ q, q = 1 ∨ q = 2 ∨ q = 7 ∨ q = 8 → μ' q = μ q) : RS T len W H te wt mq qa qb it tn ms sa sb m ca cb σ' μ' := by
  obtain ⟨a1, a2, a3, a4, a5, a6, a7, a8⟩ := h
  refine ⟨⟨a1.1, by show σ' 2 0 = _; rw [e 2 (by omega)]; exact a1.2.1, fun j hj => by show σ' 3 j = _ ∧ _; rw [e 3 (by omega)]; exact a1.2.2 j hj⟩, ⟨a2.1, by rw [f0]; exact a2.2.1, fun j hj => by rw [f 1 (by omega)]; exact a2.2.2 j hj⟩, a3, ?_, by rw [f 2 (by omega)]; exact a5, ?_, a7.cong (fun q hq => by unfold sg_off; exact e _ (by omega)), hc⟩
  · rw [e 9 (by omega), e 10 (by omega)]
    refine ⟨a4.1, a4.2.1, a4.2.2.1, a4.2.2.2.1, ?_⟩
    have := a4.2.2.2.2
    unfold HQ sg_off at *
    rw [e (11 + 0) (by omega), e (11 + 1) (by omega), e (11 + 2) (by omega)]
    exact this
  · refine ⟨a6.1, ?_, by rw [f0]; exact a6.2.2.1, fun i hi => by rw [f 7 (by omega), f 8 (by omega)]; exact a6.2.2.2 i hi⟩
    have := a6.2.1
    unfold HQ sg_off at *
    rw [e2 (40 + 0) (by omega) (by omega), e2 (40 + 1) (by omega) (by omega), e2 (40 + 2) (by omega) (by omega)]
    exact this
theorem ccpE {R : Type} {a : Int} {n0 n1 : Nat} {k : Option R} (h : 0 ≤ a ∧ a ≤ n0 ∧ a ≤ n1 ∧ a ≤ 1000000000) : ccp 0 0 (J a) n0 n1 k = k := by rw [L0]; exact ccp_J h
theorem mcopy_ok (σ τ : Sg) : Ok (f_X2_copyFrom σ τ) (fun z => z 0 0 = σ 0 0 ∧ z 0 1 = τ 0 1 ∧ z 0 2 = τ 0 2 ∧ (∀ i, i < 6 → z 1 i = τ 1 i) ∧ ∀ i, i < 24 → z 2 i = τ 2 i) := by
  unfold f_X2_copyFrom
  have y0 : (0 : Int32).toNatClampNeg = 0 := by decide
  have y6 : (6 : Int32).toNatClampNeg = 6 := by decide
  have y24 : (24 : Int32).toNatClampNeg = 24 := by decide
  rw [y0, y6, y24, L6, L24, ccpE (by omega), ccpE (by omega), Ok_some]
  refine ⟨?_, ?_, ?_, fun i hi => ?_, fun i hi => ?_⟩
  · rw [san (by omega), san (by omega), sgs, if_neg (by omega), sgs, if_neg (by omega)]
  · rw [san (by omega), san (by omega), sgs, if_neg (by omega), sgs, if_pos rfl]
  · rw [san (by omega), san (by omega), sgs, if_pos rfl]
  · rw [san (by omega), sas]
    unfold va_cpy
    rw [if_pos (by omega), show 0 + (i - 0) = i by omega]
  · rw [sas]
    unfold va_cpy
    rw [if_pos (by omega), show 0 + (i - 0) = i by omega]
theorem st_day : LS_day Rel := by
  intro σ tr μ tm h
  obtain ⟨e, T, len, W, H, te, wt, mq, qa, qb, it, tn, ms, sa, sb, m, ca, cb, nf, cd, dn, a, b, c, d⟩ := h
  have hn := a.n16
  obtain ⟨⟨o1, o2⟩, ⟨o3, o4⟩, -⟩ := a.2.2.1
  have hc := a.2.2.2.2.2.2.2
  obtain ⟨a1, a2, a3, a4, a5, a6, a7, a8, a9⟩ := b.1
  have y0 : (0 : Int32).toNatClampNeg = 0 := by decide
  have y1 : (1 : Int32).toNatClampNeg = 1 := by decide
  have y24 : (24 : Int32).toNatClampNeg = 24 := by decide
  have k8 : Ok (f_X8_day σ tr) (fun z => z.1 = σ 30 1 + 1 ∧ z.2 30 1 = σ 30 1 + 1 ∧ z.2 30 2 = J 0 ∧ HV (Bt W H cd dn nf) m ca cb (z.2 32) ∧ HP (W * H) (Fl W H) (sg_off z.2 20) ∧ HC W (W * H) m ca cb (sg_off z.2 26) ∧ HV (Bt W H cd dn nf) m ca cb (z.2 29) ∧ ∀ q, ¬ (20 ≤ q ∧ q < 26) → q ≠ 29 → ¬ (30 ≤ q ∧ q < 33) → z.2 q = σ q) := by
    unfold f_X8_day f_X2_nextDay
    rw [y0, y24, L24, ccpE (by omega), Option.bind_some]
    have t1 : (sg_sp σ 30 3 (sg_ar (sg_st (sg_st (sg_off σ 30) 0 1 ((sg_off σ 30) 0 1 + 1)) 0 2 0) 2 (va_cpy ((sg_off σ 26) 3) ((sg_st (sg_st (sg_off σ 30) 0 1 ((sg_off σ 30) 0 1 + 1)) 0 2 0) 2) 0 0 24))) 30 2 = J ((0 : Nat) : Int) := by
      rw [sps (by omega), san (by omega), sgs, if_pos rfl]; decide
    have t2 : (sg_sp σ 30 3 (sg_ar (sg_st (sg_st (sg_off σ 30) 0 1 ((sg_off σ 30) 0 1 + 1)) 0 2 0) 2 (va_cpy ((sg_off σ 26) 3) ((sg_st (sg_st (sg_off σ 30) 0 1 ((sg_off σ 30) 0 1 + 1)) 0 2 0) 2) 0 0 24))) 30 1 = σ 30 1 + 1 := by
      rw [sps (by omega), san (by omega), sgs, if_neg (by omega), sgs, if_pos rfl]; rfl
    have t3 : HV (Bt W H cd dn nf) m ca cb ((sg_sp σ 30 3 (sg_ar (sg_st (sg_st (sg_off σ 30) 0 1 ((sg_off σ 30) 0 1 + 1)) 0 2 0) 2 (va_cpy ((sg_off σ 26) 3) ((sg_st (sg_st (sg_off σ 30) 0 1 ((sg_off σ 30) 0 1 + 1)) 0 2 0) 2) 0 0 24))) 32) := by
      intro i hi
      have := hc.2.1
      rw [sps (by omega), sas]
      unfold va_cpy
      rw [if_pos (by omega), show 0 + (i - 0) = i by omega]
      exact b.2.2 i hi
    have t4 : ∀ q, ¬ (30 ≤ q ∧ q < 33) → (sg_sp σ 30 3 (sg_ar (sg_st (sg_st (sg_off σ 30) 0 1 ((sg_off σ 30) 0 1 + 1)) 0 2 0) 2 (va_cpy ((sg_off σ 26) 3) ((sg_st (sg_st (sg_off σ 30) 0 1 ((sg_off σ 30) 0 1 + 1)) 0 2 0) 2) 0 0 24))) q = σ q := fun q hq => by funext i; rw [spn (by omega)]
    generalize sg_sp σ 30 3 (sg_ar (sg_st (sg_st (sg_off σ 30) 0 1 ((sg_off σ 30) 0 1 + 1)) 0 2 0) 2 (va_cpy ((sg_off σ 26) 3) ((sg_st (sg_st (sg_off σ 30) 0 1 ((sg_off σ 30) 0 1 + 1)) 0 2 0) 2) 0 0 24)) = s1 at *
    rw [Ok_bind]
    refine (tells_ok (tr := tr) (cd := cd) (dn := Bt W H cd dn nf) (nf := 0) o1 o2 o3 o4 (a.2.2.2.2.2.2.1.cong (fun q hq => by unfold sg_off; exact t4 _ (by omega))) (hc.cong (by unfold sg_off; exact t4 _ (by omega)) (by unfold sg_off; exact t4 _ (by omega)) (by unfold sg_off; exact t4 _ (by omega))) (by omega) (fun k hk => by omega) t1 (fun k hk => by omega) t3).mono (fun z hz => ?_)
    obtain ⟨z1, z2, z3, z4⟩ := hz
    rw [Ok_some]
    refine ⟨by dsimp only; rw [z4 30 (by omega) (by omega)]; exact t2, by dsimp only; rw [z4 30 (by omega) (by omega)]; exact t2, by dsimp only; rw [z4 30 (by omega) (by omega)]; exact t1, by dsimp only; rw [z4 32 (by omega) (by omega)]; exact t3, z1, z2, z3, fun q q1 q2 q3 => by dsimp only; rw [z4 q q1 q2]; exact t4 q q3⟩
  obtain ⟨z, z0, z1, z2, z3, z4, z5, z6, z7, z8⟩ := k8
  have k9 : f_X9_day μ tm = some (μ 4 0 + 1, sg_st (sg_st μ 4 1 (J 0)) 4 0 (μ 4 0 + 1)) := by
    unfold f_X9_day
    have i1 : (sg_st μ 4 1 (J 0)) 4 0 = μ 4 0 := by rw [sgs, if_neg (by omega)]
    have i2 : (sg_st (sg_st μ 4 1 (J 0)) 4 0 (μ 4 0 + J 1)) 4 0 = μ 4 0 + J 1 := by rw [sgs, if_pos rfl]
    rw [y0, y1, L0, L1, chk_J (by omega), chk_J (by omega), chk_J (by omega), chk_J (by omega), i1, i2]
  refine ⟨z, _, z0, k9, by rw [z1, a3], e, T, len, W, H, te, wt, mq, qa, qb, it, tn, ms, sa, sb, m, ca, cb, 0, cd, Bt W H cd dn nf, ?_, ?_, ?_, ?_⟩
  · exact a.c8 (fun q hq => z8 q (by omega) (by omega) (by omega)) (fun q q1 q2 => z8 q (by omega) (by omega) (by omega)) z6 (by funext i; dsimp only; rw [sgn (by omega), sgn (by omega)]) (fun q hq => by funext i; dsimp only; rw [sgn (by omega), sgn (by omega)])
  · refine ⟨⟨by omega, fun k hk => by omega, ?_, z3, ?_, fun k hk => by omega, z4, fun c way hc' hw he => ?_, fun x y hxy => ?_⟩, z5, z7⟩
    · dsimp only; rw [z2, sgs, if_pos rfl, a3]
    · dsimp only; rw [sgs, if_neg (by omega), sgs, if_pos rfl]; rfl
    · dsimp only; rw [sgs, if_neg (by omega), sgs, if_neg (by omega)]; exact a8 c way hc' hw he
    · have g := a9 x y hxy
      have g2 := Bt_mono (W := W) (H := H) (cd := cd) (dn := dn) x y nf
      exact ⟨by omega, g.2⟩
  · exact c.cg (by omega) (fun q q1 q2 => z8 q (by omega) (by omega) (by omega)) (by funext i; dsimp only; rw [sgn (by omega), sgn (by omega)]) (by funext i; dsimp only; rw [sgn (by omega), sgn (by omega)]) hn
  · exact d.cg (by omega) (fun q q1 q2 => z8 q (by omega) (by omega) (by omega)) (by funext i; dsimp only; rw [sgn (by omega), sgn (by omega)]) (by funext i; dsimp only; rw [sgn (by omega), sgn (by omega)]) hn
theorem st_undo : LS_undo Rel := by
  intro σ tr μ tm h
  have h' := h
  obtain ⟨e, T, len, W, H, te, wt, mq, qa, qb, it, tn, ms, sa, sb, m, ca, cb, nf, cd, dn, a, b, c, d⟩ := h
  have hn := a.n16
  obtain ⟨⟨o1, o2⟩, ⟨o3, o4⟩, -⟩ := a.2.2.1
  have hc := a.2.2.2.2.2.2.2
  obtain ⟨a1, a2, a3, a4, a5, a6, a7, a8, a9⟩ := b.1
  have y1 : (1 : Int32).toNatClampNeg = 1 := by decide
  have a5 : μ 4 1 = J nf := a5
  by_cases q : nf = 0
  · refine ⟨(-2, σ), (-2, μ), ?_, ?_, rfl, h'⟩
    · unfold f_X8_undo
      rw [a4, q, if_pos (by decide +kernel)]
    · unfold f_X9_undo
      rw [y1, a5, q, L1, chk_J (by omega), if_pos (by decide +kernel)]
  · obtain ⟨k, rfl⟩ : ∃ k, nf = k + 1 := ⟨nf - 1, by omega⟩
    have a2' : VC W H cd k := fun j hj => a2 j (by omega)
    obtain ⟨v1, v2⟩ := a2 k (by omega)
    have wk : WF (W * H) (FS W H cd k) := WF_FS o1 o2 o3 o4 a2'
    have k8 : Ok (f_X8_undo σ tr) (fun z => z.1 = J k ∧ z.2 30 1 = σ 30 1 ∧ z.2 30 2 = J k ∧ HP (W * H) (FS W H cd k) (sg_off z.2 20) ∧ HC W (W * H) m ca cb (sg_off z.2 26) ∧ HV (Bt W H cd dn k) m ca cb (z.2 29) ∧ ∀ q, ¬ (20 ≤ q ∧ q < 26) → q ≠ 29 → q ≠ 30 → z.2 q = σ q) := by
      unfold f_X8_undo
      rw [a4, if_neg (by rw [L0, jeq (by omega) (by omega)]; omega), L1, J_sub, show (((k + 1 : Nat) : Int) - 1) = (k : Int) by omega, Ok_bind]
      refine (tells_ok (tr := tr) (cd := cd) (dn := dn) (nf := k) o1 o2 o3 o4 (a.2.2.2.2.2.2.1.cong (fun q hq => by funext i; rw [sof, sof, sgn (by omega)])) (hc.cong (by funext i; rw [sof, sof, sgn (by omega)]) (by funext i; rw [sof, sof, sgn (by omega)]) (by funext i; rw [sof, sof, sgn (by omega)])) (by omega) a2' (by rw [sgs, if_pos rfl]) (fun j hj => by rw [sgn (by omega)]; exact (a6 j (by omega)).1) (fun i hi => by rw [sgn (by omega)]; exact a7 i hi)).mono (fun z hz => ?_)
      obtain ⟨z1, z2, z3, z4⟩ := hz
      rw [Ok_some]
      refine ⟨by dsimp only; rw [z4 30 (by omega) (by omega), sgs, if_pos rfl], by dsimp only; rw [z4 30 (by omega) (by omega), sgs, if_neg (by omega)], by dsimp only; rw [z4 30 (by omega) (by omega), sgs, if_pos rfl], z1, z2, z3, fun q q1 q2 q3 => by dsimp only; rw [z4 q q1 q2]; funext i; rw [sgn q3]⟩
    have hV : ∀ x y, crB W (W * H) x y = true → 0 ≤ Bt W H cd dn (k + 1) x y ∧ Bt W H cd dn (k + 1) x y ≤ 20 := fun x y hxy => by
      have g := a9 x y hxy
      have g2 := Bt_mono (W := W) (H := H) (cd := cd) (dn := dn) x y (k + 1)
      omega
    have back1 : ∀ x y, Vb (Bt W H cd dn (k + 1)) (FS W H cd k) (cd k) (-1) x y = Bt W H cd dn k x y := by
      intro x y
      show (Bt W H cd dn k x y + (if PT (FS W H cd k) x y (cd k) then 1 else 0)) + (if PT (FS W H cd k) x y (cd k) then -1 else 0) = _
      split <;> omega
    have k9 : Ok (f_X9_undo μ tm) (fun z => z.1 = J k ∧ (∀ q, q ≠ 4 → q ≠ 9 → q ≠ 10 → q ≠ 11 → q ≠ 12 → z.2 q = μ q) ∧ z.2 4 0 = μ 4 0 ∧ z.2 4 1 = J k ∧ (∀ j, j < k → z.2 4 (2 + j) = μ 4 (2 + j)) ∧ RBp (Bt W H cd dn k) W (W * H) 4 0 z.2) := by
      unfold f_X9_undo
      rw [y1, a5, L1, chk_J (by omega), if_neg (by rw [L0, jeq (by omega) (by omega)]; omega), chk_J (by omega), chk_J (by omega), chk_J (by omega), J_sub, show (((k + 1 : Nat) : Int) - 1) = (k : Int) by omega, sgs, if_pos rfl, Ok_bind]
      have htd : TD W H (sg_st μ 4 1 (J k)) := a.td.cong (by funext i; rw [sgn (by omega)])
      refine (now_ok (tr := tm) o1 o2 o3 o4 htd (m := k) (cd := cd) (by omega) a2' (fun j hj => ?_)).mono (fun z hz => ?_)
      · rw [sgs, if_neg (by omega)]
        have := (a6 j (by omega)).2
        rw [Nat.zero_add] at this; exact this
      · obtain ⟨z9, zq⟩ := hz
        have z4 : z 4 = (sg_st μ 4 1 (J k)) 4 := zq 4 (by omega) (by omega) (by omega) (by omega)
        have z41 : z 4 1 = J k := by rw [z4, sgs, if_pos rfl]
        have i2 : (J (2 + (k : Int))).toNatClampNeg = 2 + k := by rw [jcl (by omega)]; omega
        have zk : z 4 (2 + k) = J (cd k) := by
          rw [z4, sgs, if_neg (by omega)]
          have := (a6 k (by omega)).2
          rw [Nat.zero_add] at this; exact this
        rw [chk_J (by omega), z41, L2, J_add, chk_J (by omega), i2, zk, J_neg, Ok_bind]
        have ztd : TD W H z := htd.cong (zq 2 (by omega) (by omega) (by omega) (by omega))
        have zrb : RBp (Bt W H cd dn (k + 1)) W (W * H) 4 0 z := fun x way hx hw he => by
          rw [z4, sgs, if_neg (by omega)]; exact a8 x way hx hw he
        refine (bendsAll_ok (tr := tm) o1 o2 hn wk ztd z9 zrb hV v1 (by_ := -1) (Or.inr rfl)).mono (fun y hy => ?_)
        obtain ⟨b1, b2, b3, -⟩ := hy
        rw [chk_J (by omega), Ok_some]
        refine ⟨by dsimp only; rw [b2 1 (by omega)]; exact z41, fun q q1 q2 q3 q4 q5 => by dsimp only; rw [b1 q q1, zq q q2 q3 q4 q5]; funext i; rw [sgn q1], by dsimp only; rw [b2 0 (by omega), z4, sgs, if_neg (by omega)], by dsimp only; rw [b2 1 (by omega)]; exact z41, fun j hj => by dsimp only; rw [b2 (2 + j) (by omega), z4, sgs, if_neg (by omega)], fun x way hx hw he => ?_⟩
        have := b3 x way hx hw he
        rw [back1] at this
        exact this
    obtain ⟨z, z0, z1, z2, z3, z4, z5, z6, z7⟩ := k8
    obtain ⟨y, w0, w1, w2, w3, w4, w5, w6⟩ := k9
    refine ⟨z, y, z0, w0, by rw [z1, w1], e, T, len, W, H, te, wt, mq, qa, qb, it, tn, ms, sa, sb, m, ca, cb, k, cd, dn, ?_, ?_, ?_, ?_⟩
    · exact a.c8 (fun q hq => z7 q (by omega) (by omega) (by omega)) (fun q q1 q2 => z7 q (by omega) (by omega) (by omega)) z5 (w2 0 (by omega) (by omega) (by omega) (by omega) (by omega)) (fun q hq => w2 q (by omega) (by omega) (by omega) (by omega) (by omega))
    · refine ⟨⟨by omega, a2', by rw [z2, w3]; exact a3, z3, w4, fun j hj => ⟨by rw [z7 _ (by omega) (by omega) (by omega)]; exact (a6 j (by omega)).1, ?_⟩, fun i hi => by rw [z7 _ (by omega) (by omega) (by omega)]; exact a7 i hi, w6, fun x y hxy => ?_⟩, z4, z6⟩
      · rw [Nat.zero_add, w5 j hj]
        have := (a6 j (by omega)).2
        rw [Nat.zero_add] at this; exact this
      · have g := a9 x y hxy
        have g2 := Bt_step (W := W) (H := H) (cd := cd) (dn := dn) k x y
        exact ⟨g.1, by omega⟩
    · exact c.cg (by omega) (fun q q1 q2 => z7 q (by omega) (by omega) (by omega)) (w2 5 (by omega) (by omega) (by omega) (by omega) (by omega)) (w2 6 (by omega) (by omega) (by omega) (by omega) (by omega)) hn
    · exact d.cg (by omega) (fun q q1 q2 => z7 q (by omega) (by omega) (by omega)) (w2 5 (by omega) (by omega) (by omega) (by omega) (by omega)) (w2 6 (by omega) (by omega) (by omega) (by omega) (by omega)) hn
