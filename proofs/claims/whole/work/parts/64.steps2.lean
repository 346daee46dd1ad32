/-! ===== the steps: asked of the packet ===== -/
theorem z4_eq {W H : Nat} {μ z : Sg} {i : Nat} {x : Int32} (hz : ∀ q, q ≠ 9 → q ≠ 10 → q ≠ 11 → q ≠ 12 → z q = μ q) (h : μ 2 i = x) : z 2 i = x := by rw [hz 2 (by omega) (by omega) (by omega) (by omega)]; exact h
theorem st_cell : LS_cell Rel := by
  intro σ tr μ tm h p1 p2
  have h' := h
  obtain ⟨e, T, len, W, H, te, wt, mq, qa, qb, it, tn, ms, sa, sb, m, ca, cb, nf, cd, dn, a, b, c, d⟩ := h
  obtain ⟨x, rfl, hx⟩ := j_of p1
  obtain ⟨y, rfl, hy⟩ := j_of p2
  have hn := a.n16
  obtain ⟨w, hnow⟩ := now9 (tr := tm) a b
  have i9 : f_X9_in (J y) 0 5 = some (J (if 0 ≤ y ∧ y ≤ 5 then 1 else 0)) := by rw [L0, L5]; exact in_eq hy (by omega) (by omega)
  by_cases q : 0 ≤ x ∧ x < ((W * H : Nat) : Int)
  · obtain ⟨cx, rfl⟩ := Int.eq_ofNat_of_zero_le q.1
    have hcx : cx < W * H := by omega
    have hw8 : ∀ i, i < 16 → (sg_off σ 10) 0 i = J (wt i) ∧ 0 ≤ wt i ∧ wt i ≤ 9 := fun i hi => ⟨a.2.2.2.1.2.2.2.1 i hi, a.2.2.1.2.2.2.1 i hi⟩
    have hw9 : ∀ i, i < 16 → μ 2 (6 + i) = J (wt i) := a.2.2.2.2.1.2.2.2.2.2.2.1
    have ge8 := gainOf_eq w b.2.1 hw8 hcx
    obtain ⟨v1, v2, v3, v4⟩ := b.2.1.2.2.2 cx hcx
    have v1 : σ 21 cx = _ := v1
    have v2 : σ 22 cx = _ := v2
    have v3 : σ 23 cx = _ := v3
    have v4 : σ 24 cx = _ := v4
    have v5 : σ 10 cx = J (wt cx) := a.2.2.2.1.2.2.2.1 cx (by omega)
    have ic : (J (cx : Int)).toNatClampNeg = cx := by rw [jcl (by omega)]; omega
    have k8 : f_X8_cell σ tr (J cx) (J y) = some (if y = 0 then J ((FS W H cd nf).2 0 cx) else if y = 1 then J ((FS W H cd nf).2 1 cx) else if y = 2 then J ((FS W H cd nf).2 2 cx) else if y = 3 then J ((FS W H cd nf).2 3 cx) else if y = 4 then J (wt cx) else if y = 5 then J (gn wt (FS W H cd nf).2 cx (W * H)) else J (-1)) := by
      unfold f_X8_cell
      rw [isCell8_eq b.2.1 hn hx, if_pos q, Option.bind_some, if_neg (by decide +kernel), ge8, Option.bind_some, ic, v1, v2, v3, v4, v5]
      simp (disch := omega) only [L0, L1, L2, L3, L4, L5, J_neg, chk_J, jeq]
      (repeat' split) <;> first | rfl | (exfalso; omega)
    by_cases q2 : 0 ≤ y ∧ y ≤ 5
    · have k9 : Ok (f_X9_cell μ tm (J cx) (J y)) (fun z => z.1 = (if y = 0 then J ((FS W H cd nf).2 0 cx) else if y = 1 then J ((FS W H cd nf).2 1 cx) else if y = 2 then J ((FS W H cd nf).2 2 cx) else if y = 3 then J ((FS W H cd nf).2 3 cx) else if y = 4 then J (wt cx) else if y = 5 then J (gn wt (FS W H cd nf).2 cx (W * H)) else J (-1)) ∧ Ev9 μ z.2) := by
        unfold f_X9_cell
        rw [isCell9_eq a.td hn hx, if_pos q, Option.bind_some, if_neg (by decide +kernel), i9, Option.bind_some, if_pos q2, if_neg (by decide +kernel)]
        refine ok_now hnow (fun z hz => ?_)
        obtain ⟨z9, ztd, zq⟩ := hz
        have i6 : (J (6 + (cx : Int))).toNatClampNeg = 6 + cx := by rw [jcl (by omega)]; omega
        have g6 : z 2 (6 + cx) = J (wt cx) := by rw [zq 2 (by omega) (by omega) (by omega) (by omega)]; exact hw9 cx (by omega)
        have ge9 := gain_eq (tr := tm) (L := 0) w ztd (by omega) z9 (fun i hi => by rw [zq 2 (by omega) (by omega) (by omega) (by omega)]; exact hw9 i hi) hcx
        rw [show (0 : Int32) = J ((0 : Nat) : Int) from by decide +kernel, ge9, Option.bind_some]
        obtain ⟨u1, u2, u3, u4⟩ := z9.2.2 cx hcx
        rw [Nat.mul_zero, Nat.zero_add] at u1 u2 u3 u4
        have hpk : ∀ k : Nat, k < 4 → z 9 (16 * k + cx) = J ((FS W H cd nf).2 k cx) := by
          intro k hk
          rcases (show k = 0 ∨ k = 1 ∨ k = 2 ∨ k = 3 by omega) with g | g | g | g <;> subst g
          · rw [Nat.mul_zero, Nat.zero_add]; exact u1
          · exact u2
          · exact u3
          · exact u4
        simp (disch := omega) only [L4, L6, L16, J_mul, J_add, chk_J, jle, jeq, i6, g6]
        by_cases q4 : 4 ≤ y
        · rw [if_pos q4]
          by_cases q5 : y = 4
          · rw [if_pos q5, Ok_some]
            refine ⟨?_, Ev9.of zq⟩
            subst q5; simp
          · rw [if_neg q5, Ok_some]
            refine ⟨?_, Ev9.of zq⟩
            have : y = 5 := by omega
            subst this; simp
        · rw [if_neg q4]
          obtain ⟨k, rfl⟩ := Int.eq_ofNat_of_zero_le q2.1
          have ik : (J (16 * (k : Int) + cx)).toNatClampNeg = 16 * k + cx := by rw [jcl (by omega)]; omega
          rw [ik, hpk k (by omega), Ok_some]
          refine ⟨?_, Ev9.of zq⟩
          rcases (show k = 0 ∨ k = 1 ∨ k = 2 ∨ k = 3 by omega) with g | g | g | g <;> subst g <;> simp
      obtain ⟨z, z1, z2, z3⟩ := k9
      exact ⟨_, z, k8, z1, z2.symm, h'.cong (Ev8.refl σ) z3⟩
    · refine ⟨_, (-1, μ), k8, ?_, ?_, h'⟩
      · unfold f_X9_cell
        rw [isCell9_eq a.td hn hx, if_pos q, Option.bind_some, if_neg (by decide +kernel), i9, Option.bind_some, if_neg q2, if_pos (by decide +kernel)]
      · rw [if_neg (by omega), if_neg (by omega), if_neg (by omega), if_neg (by omega), if_neg (by omega), if_neg (by omega)]
        show J (-1) = (-1 : Int32)
        decide +kernel
  · refine ⟨-1, (-1, μ), ?_, ?_, rfl, h'⟩
    · unfold f_X8_cell
      rw [isCell8_eq b.2.1 hn hx, if_neg q, Option.bind_some, if_pos (by decide +kernel)]
    · unfold f_X9_cell
      rw [isCell9_eq a.td hn hx, if_neg q, Option.bind_some, if_pos (by decide +kernel)]
theorem sq_at : LS_at Rel := by
  intro σ tr μ tm h p1 p2 p3
  have h' := h
  obtain ⟨e, T, len, W, H, te, wt, mq, qa, qb, it, tn, ms, sa, sb, m, ca, cb, nf, cd, dn, a, b, c, d⟩ := h
  obtain ⟨x, rfl, hx⟩ := j_of p1
  obtain ⟨y, rfl, hy⟩ := j_of p2
  obtain ⟨l, rfl, hl⟩ := j_of p3
  have hn := a.n16
  obtain ⟨w, hnow⟩ := now9 (tr := tm) a b
  have c1 : (J x < 0) ↔ x < 0 := by rw [L0, jlt hx (by omega)]
  have c2 : (J y < 0) ↔ y < 0 := by rw [L0, jlt hy (by omega)]
  have c3 : ((0 : Int32) ≤ J l) ↔ 0 ≤ l := by rw [L0, jle (by omega) hl]
  by_cases q : 0 ≤ x ∧ 0 ≤ y ∧ 0 ≤ l
  · have n1 : ¬ J x < 0 := fun g => by have := c1.mp g; omega
    have n2 : ¬ J y < 0 := fun g => by have := c2.mp g; omega
    have n3 : (0 : Int32) ≤ J l := c3.mpr q.2.2
    have h20 : σ 20 0 = J ((W * H : Nat) : Int) := b.2.1.1
    have k8 : Ok (f_X8_at σ tr (J x) (J y) (J l)) (fun r => (∃ c : Nat, c < W * H ∧ r = J c ∧ (FS W H cd nf).2 0 c = x ∧ (FS W H cd nf).2 1 c = y ∧ (FS W H cd nf).2 2 c = l) ∨ (r = J (-9) ∧ ∀ c, c < W * H → ¬ ((FS W H cd nf).2 0 c = x ∧ (FS W H cd nf).2 1 c = y ∧ (FS W H cd nf).2 2 c = l))) := by
      unfold f_X8_at
      rw [if_neg n1, if_neg n2, if_pos n3, show (0 : Int32) = J ((0 : Nat) : Int) from by decide +kernel]
      refine Ok_for1 (W * H) (fun k => ∀ c, c < k → ¬ ((FS W H cd nf).2 0 c = x ∧ (FS W H cd nf).2 1 c = y ∧ (FS W H cd nf).2 2 c = l)) (fun k κ hk hi hκ => ?_) (fun κ hi => ?_) 1000 0 (by omega) (by omega) (fun c hc => by omega)
      · obtain ⟨b1, b2, b3, b4, b5, b6, b7⟩ := w.bd hk
        obtain ⟨v1, v2, v3, -⟩ := b.2.1.2.2.2 k hk
        have v1 : σ 21 k = _ := v1
        have v2 : σ 22 k = _ := v2
        have v3 : σ 23 k = _ := v3
        have ik : (J (k : Int)).toNatClampNeg = k := by rw [jcl (by omega)]; omega
        have nx : ¬ ((FS W H cd nf).2 0 k = x ∧ (FS W H cd nf).2 1 k = y ∧ (FS W H cd nf).2 2 k = l) → ∀ c, c < k + 1 → ¬ ((FS W H cd nf).2 0 c = x ∧ (FS W H cd nf).2 1 c = y ∧ (FS W H cd nf).2 2 c = l) := by
          intro hx' c hc
          by_cases e' : c = k
          · rw [e']; exact hx'
          · exact hi c (by omega)
        unfold s_X8_at_17
        simp (disch := omega) only [h20, L1, J_add, chk_J, ik, v1, v2, v3, jeq]
        rw [if_neg (by rw [jle (by omega) (by omega)]; omega)]
        by_cases g1 : (FS W H cd nf).2 0 k = x
        · rw [if_pos g1]
          by_cases g2 : (FS W H cd nf).2 1 k = y
          · rw [if_pos g2]
            by_cases g3 : (FS W H cd nf).2 2 k = l
            · rw [if_pos g3, Ok_some]; exact Or.inl ⟨k, hk, rfl, g1, g2, g3⟩
            · rw [if_neg g3]; exact hκ (nx (fun g => g3 g.2.2))
          · rw [if_neg g2]; exact hκ (nx (fun g => g2 g.2.1))
        · rw [if_neg g1]; exact hκ (nx (fun g => g1 g.1))
      · unfold s_X8_at_17
        rw [h20, if_pos (by rw [jle (by omega) (by omega)]; omega), Ok_some, L9, J_neg]
        exact Or.inr ⟨rfl, hi⟩
    have k9 : Ok (f_X9_at μ tm (J x) (J y) (J l)) (fun z => Ev9 μ z.2 ∧ ((∃ c : Nat, c < W * H ∧ z.1 = J c ∧ (FS W H cd nf).2 0 c = x ∧ (FS W H cd nf).2 1 c = y ∧ (FS W H cd nf).2 2 c = l) ∨ (z.1 = J (-9) ∧ ∀ c, c < W * H → ¬ ((FS W H cd nf).2 0 c = x ∧ (FS W H cd nf).2 1 c = y ∧ (FS W H cd nf).2 2 c = l)))) := by
      unfold f_X9_at
      rw [if_neg n1, if_neg n2, if_pos n3]
      refine ok_now hnow (fun z hz => ?_)
      obtain ⟨z9, ztd, zq⟩ := hz
      have hce := cells_eq (tr := tm) ztd
      rw [show (0 : Int32) = J ((0 : Nat) : Int) from by decide +kernel]
      refine Ok_for2r (W * H) (fun k r => (∃ c : Nat, c < k ∧ c < W * H ∧ r = J c ∧ (FS W H cd nf).2 0 c = x ∧ (FS W H cd nf).2 1 c = y ∧ (FS W H cd nf).2 2 c = l) ∨ (r = J (-9) ∧ ∀ c, c < k → ¬ ((FS W H cd nf).2 0 c = x ∧ (FS W H cd nf).2 1 c = y ∧ (FS W H cd nf).2 2 c = l))) (fun k r κ hk hi hκ => ?_) (fun r κ hi => ?_) 1000 0 _ (by omega) (by omega) (Or.inr ⟨by rw [L9, J_neg], fun c hc => by omega⟩)
      · obtain ⟨b1, b2, b3, b4, b5, b6, b7⟩ := w.bd hk
        obtain ⟨u1, u2, u3, -⟩ := z9.2.2 k hk
        rw [Nat.mul_zero, Nat.zero_add] at u1 u2 u3
        have ik : (J (k : Int)).toNatClampNeg = k := by rw [jcl (by omega)]; omega
        have i1 : (J (16 + (k : Int))).toNatClampNeg = 16 + k := by rw [jcl (by omega)]; omega
        have i2 : (J (32 + (k : Int))).toNatClampNeg = 32 + k := by rw [jcl (by omega)]; omega
        have nx : ¬ ((FS W H cd nf).2 0 k = x ∧ (FS W H cd nf).2 1 k = y ∧ (FS W H cd nf).2 2 k = l) → (∃ c : Nat, c < k + 1 ∧ c < W * H ∧ r = J c ∧ (FS W H cd nf).2 0 c = x ∧ (FS W H cd nf).2 1 c = y ∧ (FS W H cd nf).2 2 c = l) ∨ (r = J (-9) ∧ ∀ c, c < k + 1 → ¬ ((FS W H cd nf).2 0 c = x ∧ (FS W H cd nf).2 1 c = y ∧ (FS W H cd nf).2 2 c = l)) := by
          intro hx'
          rcases hi with ⟨c, hc, g⟩ | ⟨g1, g2⟩
          · exact Or.inl ⟨c, by omega, g⟩
          · refine Or.inr ⟨g1, fun c hc => ?_⟩
            by_cases e' : c = k
            · rw [e']; exact hx'
            · exact g2 c (by omega)
        unfold s_X9_at_31
        rw [hce, Option.bind_some, if_neg (by rw [jle (by omega) (by omega)]; omega)]
        simp (disch := omega) only [L16, L32, L1, J_add, chk_J, ik, i1, i2, u1, u2, u3, jeq]
        by_cases g1 : (FS W H cd nf).2 0 k = x
        · rw [if_pos g1]
          by_cases g2 : (FS W H cd nf).2 1 k = y
          · rw [if_pos g2]
            by_cases g3 : (FS W H cd nf).2 2 k = l
            · rw [if_pos g3]; exact hκ _ (Or.inl ⟨k, by omega, hk, rfl, g1, g2, g3⟩)
            · rw [if_neg g3]; exact hκ _ (nx (fun g => g3 g.2.2))
          · rw [if_neg g2]; exact hκ _ (nx (fun g => g2 g.2.1))
        · rw [if_neg g1]; exact hκ _ (nx (fun g => g1 g.1))
      · unfold s_X9_at_31
        rw [hce, Option.bind_some, if_pos (by rw [jle (by omega) (by omega)]; omega), Ok_some]
        refine ⟨Ev9.of zq, ?_⟩
        rcases hi with ⟨c, -, g⟩ | g
        · exact Or.inl ⟨c, g⟩
        · exact Or.inr g
    obtain ⟨r, r1, r2⟩ := k8
    obtain ⟨z, z1, z2, z3⟩ := k9
    refine ⟨r, z, r1, z1, ?_, h'.cong (Ev8.refl σ) z2⟩
    rcases r2 with ⟨c1, h1, e1, f1, f2, f3⟩ | ⟨e1, f1⟩
    · rcases z3 with ⟨c2, h2, e2, g1, g2, g3⟩ | ⟨e2, g1⟩
      · have : c1 = c2 := w.2.2.2.2.2.2.2.2.1 c1 c2 h1 h2 (f1.trans g1.symm) (f2.trans g2.symm) (f3.trans g3.symm)
        rw [e1, e2, this]
      · exact absurd ⟨f1, f2, f3⟩ (g1 c1 h1)
    · rcases z3 with ⟨c2, h2, e2, g1, g2, g3⟩ | ⟨e2, g1⟩
      · exact absurd ⟨g1, g2, g3⟩ (f1 c2 h2)
      · rw [e1, e2]
  · have both : f_X8_at σ tr (J x) (J y) (J l) = some (-1) ∧ f_X9_at μ tm (J x) (J y) (J l) = some (-1, μ) := by
      unfold f_X8_at f_X9_at
      by_cases g1 : x < 0
      · rw [if_pos (c1.mpr g1), if_pos (c1.mpr g1)]; exact ⟨rfl, rfl⟩
      · rw [if_neg (fun g => g1 (c1.mp g)), if_neg (fun g => g1 (c1.mp g))]
        by_cases g2 : y < 0
        · rw [if_pos (c2.mpr g2), if_pos (c2.mpr g2)]; exact ⟨rfl, rfl⟩
        · rw [if_neg (fun g => g2 (c2.mp g)), if_neg (fun g => g2 (c2.mp g)), if_neg (fun g => by have := c3.mp g; omega), if_neg (fun g => by have := c3.mp g; omega)]
          exact ⟨rfl, rfl⟩
    exact ⟨-1, (-1, μ), both.1, both.2, rfl, h'⟩
