/-! ===== the steps: packet, rate, bent ===== -/
theorem st_packet : LS_packet Rel := by
  intro σ tr μ tm h p1
  have h' := h
  obtain ⟨e, T, len, W, H, te, wt, mq, qa, qb, it, tn, ms, sa, sb, m, ca, cb, nf, cd, dn, a, b, c, d⟩ := h
  obtain ⟨x, rfl, hx⟩ := j_of p1
  have hn := a.n16
  obtain ⟨w, hnow⟩ := now9 (tr := tm) a b
  have i9 : f_X9_in (J x) 0 4 = some (J (if 0 ≤ x ∧ x ≤ 4 then 1 else 0)) := by rw [L0, L4]; exact in_eq hx (by omega) (by omega)
  obtain ⟨m6, mr⟩ := (⟨a.2.2.1.2.2.2.2.1, a.2.2.1.2.2.2.2.2.1⟩ : mq ≤ 6 ∧ ∀ i, i < mq → qa i < W * H ∧ qb i < W * H)
  have f8 := countFought_eq w b.2.1 m6 a.2.2.2.1.2.2.2.2 mr
  have p8 := frontPairs_eq w b.2.1
  rw [pairs_eq] at p8
  have t8 := thickest_eq w b.2.1
  have e0 : σ 20 1 = J ((FS W H cd nf).1 0) := b.2.1.2.1
  have e1 : σ 20 2 = J ((FS W H cd nf).1 1) := b.2.1.2.2.1
  have k8 : f_X8_packet σ tr (J x) = some (if x = 0 then J ((FS W H cd nf).1 0) else if x = 1 then J ((FS W H cd nf).1 1) else if x = 2 then J (mxl ((FS W H cd nf).2 2) (W * H) + 1) else if x = 3 then J (cnt (fun i => decide (tcP (FS W H cd nf).2 (qa i) (qb i) = 1)) mq) else if x = 4 then J (sumI (fun a => cnt (fun b => tt (FS W H cd nf).2 a b) a) (W * H)) else J (-1)) := by
    unfold f_X8_packet
    rw [e0, e1, t8, f8, p8]
    simp (disch := omega) only [L0, L1, L2, L3, L4, J_neg, Option.bind_some, jeq]
    (repeat' split) <;> first | rfl | (exfalso; omega)
  by_cases q : 0 ≤ x ∧ x ≤ 4
  · have k9 : Ok (f_X9_packet μ tm (J x)) (fun z => z.1 = (if x = 0 then J ((FS W H cd nf).1 0) else if x = 1 then J ((FS W H cd nf).1 1) else if x = 2 then J (mxl ((FS W H cd nf).2 2) (W * H) + 1) else if x = 3 then J (cnt (fun i => decide (tcP (FS W H cd nf).2 (qa i) (qb i) = 1)) mq) else if x = 4 then J (sumI (fun a => cnt (fun b => tt (FS W H cd nf).2 a b) a) (W * H)) else J (-1)) ∧ Ev9 μ z.2) := by
      unfold f_X9_packet
      rw [i9, Option.bind_some, if_pos q, if_neg (by decide +kernel)]
      refine ok_now hnow (fun z hz => ?_)
      obtain ⟨z9, ztd, zq⟩ := hz
      have hce := cells_eq (tr := tm) ztd
      have z2 : z 2 = μ 2 := zq 2 (by omega) (by omega) (by omega) (by omega)
      have z23 : z 2 3 = J mq := by rw [z2]; exact a.2.2.2.2.1.2.2.2.1
      have y3 := z35.2.2.2.1
      rw [show (0 : Int32) = J ((0 : Nat) : Int) from by decide +kernel]
      refine Ok_for2r mq (fun k r => r = J (cnt (fun i => decide (tcP (FS W H cd nf).2 (qa i) (qb i) = 1)) k)) (fun k r κ hk hi hκ => ?_) (fun r κ hi => ?_) 1000 0 _ (by omega) (by omega) rfl
      · subst hi
        obtain ⟨r1, r2⟩ := mr k hk
        obtain ⟨g1, g2⟩ := a.2.2.2.2.1.2.2.2.2.2.2.2 k hk
        have i1 : (J (22 + (k : Int))).toNatClampNeg = 22 + k := by rw [jcl (by omega)]; omega
        have i2 : (J (28 + (k : Int))).toNatClampNeg = 28 + k := by rw [jcl (by omega)]; omega
        have htr := tcP_range (FS W H cd nf).2 (qa k) (qb k)
        have tq := touches_eq (tr := tm) (L := 0) w (by omega) z9 r1 r2
        unfold s_X9_packet_25 j_X9_packet_3
        simp (disch := omega) only [L3, L22, L28, L1, J_add, chk_J, y3, z23, i1, i2, z2, g1, g2]
        rw [if_neg (by rw [jle (by omega) (by omega)]; omega), show (0 : Int32) = J ((0 : Nat) : Int) from by decide +kernel, tq, Option.bind_some]
        by_cases g : tcP (FS W H cd nf).2 (qa k) (qb k) = 1
        · rw [if_pos (by rw [g])]
          refine hκ _ ?_
          rw [cnt_succ]; simp [g]
        · rw [if_neg (by rw [jeq (by omega) (by omega)]; exact g), J_add]
          refine hκ _ ?_
          rw [cnt_succ]; simp [g]
      · unfold s_X9_packet_25
        rw [L3, chk_J (by omega), y3, z23, if_pos (by rw [jle (by omega) (by omega)]; omega), hi, show (0 : Int32) = J ((0 : Nat) : Int) from by decide +kernel]
        refine Ok_for2r (W * H) (fun k r => r = J (sumI (fun a => cnt (fun b => tt (FS W H cd nf).2 a b) a) k)) (fun k r κ hk hi hκ => ?_) (fun r κ hi => ?_) 1000 0 _ (by omega) (by omega) rfl
        · subst hi
          unfold s_X9_packet_81
          rw [hce, Option.bind_some, if_neg (by rw [jle (by omega) (by omega)]; omega), show (0 : Int32) = J ((0 : Nat) : Int) from by decide +kernel]
          refine Ok_for2r k (fun j r => r = J (sumI (fun a => cnt (fun b => tt (FS W H cd nf).2 a b) a) k + cnt (fun b => tt (FS W H cd nf).2 k b) j)) (fun j r κ' hj hi hκ' => ?_) (fun r κ' hi => ?_) 1000 0 _ (by omega) (by omega) (congrArg J (by show _ = _ + 0; omega))
          · subst hi
            have htr := tcP_range (FS W H cd nf).2 k j
            have tq := touches_eq (tr := tm) (L := 0) (b := j) w (by omega) z9 hk (by omega)
            unfold s_X9_packet_93 j_X9_packet_2
            rw [if_neg (by rw [jle (by omega) (by omega)]; omega), show (0 : Int32) = J ((0 : Nat) : Int) from by decide +kernel, tq, Option.bind_some, L1]
            by_cases g : tcP (FS W H cd nf).2 k j = 1
            · rw [if_pos (by rw [g]), J_add, J_add]
              refine hκ' _ ?_
              rw [cnt_succ]; simp [tt, g]
              exact congrArg J (by omega)
            · rw [if_neg (by rw [jeq (by omega) (by omega)]; exact g), J_add, J_add]
              refine hκ' _ ?_
              rw [cnt_succ]; simp [tt, g]
          · unfold s_X9_packet_93
            rw [if_pos (by rw [jle (by omega) (by omega)]; omega), L1, J_add, hi]
            exact hκ _ (by rw [sumI_succ])
        · subst hi
          unfold s_X9_packet_81
          rw [hce, Option.bind_some, if_pos (by rw [jle (by omega) (by omega)]; omega)]
          unfold j_X9_packet_1
          have u0 : z 10 0 = J ((FS W H cd nf).1 0) := z9.1
          have u1 : z 10 1 = J ((FS W H cd nf).1 1) := z9.2.1
          have th := thick_eq (tr := tm) w ztd z9
          simp (disch := omega) only [L2, L3, th, Option.bind_some, jle, jeq, chk_J]
          by_cases q2 : 2 ≤ x
          · rw [if_pos q2]
            by_cases q3 : x = 2
            · rw [if_pos q3, Ok_some]
              refine ⟨?_, Ev9.of zq⟩
              subst q3; simp
            · rw [if_neg q3]
              by_cases q4 : x = 3
              · rw [if_pos q4, Ok_some]
                refine ⟨?_, Ev9.of zq⟩
                subst q4; simp
              · rw [if_neg q4, Ok_some]
                refine ⟨?_, Ev9.of zq⟩
                have : x = 4 := by omega
                subst this; simp
          · rw [if_neg q2, Ok_some]
            refine ⟨?_, Ev9.of zq⟩
            rcases (show x = 0 ∨ x = 1 by omega) with g | g <;> subst g
            · rw [z35.1, u0, if_pos rfl]
            · rw [z35.2.1, u1, if_neg (by omega), if_pos rfl]
    obtain ⟨z, z1, z2, z3⟩ := k9
    exact ⟨_, z, k8, z1, z2.symm, h'.cong (Ev8.refl σ) z3⟩
  · refine ⟨_, (-1, μ), k8, ?_, ?_, h'⟩
    · unfold f_X9_packet
      rw [i9, Option.bind_some, if_neg q, if_pos (by decide +kernel)]
    · rw [if_neg (by omega), if_neg (by omega), if_neg (by omega), if_neg (by omega), if_neg (by omega)]
      show J (-1) = (-1 : Int32)
      decide +kernel
theorem st_rate : LS_rate Rel := by
  intro σ tr μ tm h p1 p2
  have h' := h
  obtain ⟨e, T, len, W, H, te, wt, mq, qa, qb, it, tn, ms, sa, sb, m, ca, cb, nf, cd, dn, a, b, c, d⟩ := h
  subst e
  obtain ⟨x, rfl, hx⟩ := j_of p1
  obtain ⟨y, rfl, hy⟩ := j_of p2
  have hn := a.n16
  have i9 : f_X9_in (J x) 0 5 = some (J (if 0 ≤ x ∧ x ≤ 5 then 1 else 0)) := by rw [L0, L5]; exact in_eq hx (by omega) (by omega)
  have c1 : (J x < 0) ↔ x < 0 := by rw [L0, jlt hx (by omega)]
  have c2 : ((6 : Int32) ≤ J x) ↔ 6 ≤ x := by rw [L6, jle (by omega) hx]
  by_cases q : 0 ≤ x ∧ x ≤ 5
  · by_cases q2 : 0 ≤ y ∧ y < ((W * H : Nat) : Int)
    · obtain ⟨cy, rfl⟩ := Int.eq_ofNat_of_zero_le q2.1
      have hcy : cy < W * H := by omega
      have hw8 : ∀ i, i < 16 → (sg_off σ 10) 0 i = J (wt i) ∧ 0 ≤ wt i ∧ wt i ≤ 9 := fun i hi => ⟨a.2.2.2.1.2.2.2.1 i hi, a.2.2.1.2.2.2.1 i hi⟩
      have hw9 : ∀ i, i < 16 → μ 2 (6 + i) = J (wt i) := a.2.2.2.2.1.2.2.2.2.2.2.1
      have wW := (now9 (tr := tr) a b).1
      have ge8 := gainOf_eq wW b.2.1 hw8 hcy
      have v3 : σ 23 cy = J ((FS W H cd nf).2 2 cy) := (b.2.1.2.2.2 cy hcy).2.2.1
      have v5 : σ 10 cy = J (wt cy) := a.2.2.2.1.2.2.2.1 cy (by omega)
      have ic : (J (cy : Int)).toNatClampNeg = cy := by rw [jcl (by omega)]; omega
      have n5 := b.1.2.2.1
      have n6 := b.1.2.2.2.1
      have rc : ∀ t, f_X8_rateAsCell σ t (J cy) = some (J (wt cy), t + 1) := fun t => by
        unfold f_X8_rateAsCell; rw [chk_J (by omega), ic, v5]
      have rh : ∀ t, f_X8_rateAsHermit σ t (J cy) = some (J (wt cy) - J ((FS W H cd nf).2 2 cy), t + 100 + 1) := fun t => by
        unfold f_X8_rateAsHermit; rw [rc, Option.bind_some, chk_J (by omega), ic, v3]
      have rw8 : ∀ t, f_X8_rateAsWell σ t (J cy) = some (J (wt cy) + J (gn wt (FS W H cd nf).2 cy (W * H)), t + 10 + 1) := fun t => by
        unfold f_X8_rateAsWell; rw [rc, Option.bind_some, ge8, Option.bind_some]
      have k8 : f_X8_rate σ tr (J x) (J cy) = some (if x = 0 then (J (wt cy), tr + 1) else if x = 1 then (J (wt cy) + J (gn wt (FS W H cd nf).2 cy (W * H)), tr + 11) else if x = 2 then (J (wt cy) - J ((FS W H cd nf).2 2 cy), tr + 101) else if x = 3 then (2 * (J (wt cy) + J (gn wt (FS W H cd nf).2 cy (W * H))), tr + 1011) else if x = 4 then (J (wt cy) - J ((FS W H cd nf).2 2 cy) + J nf, tr + 10101) else (J (wt cy) + μ 4 0, tr + 100001)) := by
        unfold f_X8_rate f_X8_rateAsLight f_X8_rateAsFolder f_X8_rateAsDuke
        rw [if_neg (fun g => by have := c1.mp g; omega), if_neg (fun g => by have := c2.mp g; omega), isCell8_eq b.2.1 hn hy, if_pos q2, Option.bind_some, if_neg (by decide +kernel), rc, rc, rh, rh, rw8, rw8, n5, n6]
        simp only [Option.bind_some]
        have ad : ∀ u v s : Int64, u + v = s → tr + u + v = tr + s := fun u v s hs => by rw [Int64.add_assoc, hs]
        rcases (show x = 0 ∨ x = 1 ∨ x = 2 ∨ x = 3 ∨ x = 4 ∨ x = 5 by omega) with g | g | g | g | g | g <;> subst g
        · rw [if_neg (by decide +kernel), if_neg (by decide +kernel), if_neg (by decide +kernel), if_neg (by decide +kernel), if_neg (by decide +kernel), if_pos rfl]
        · rw [if_pos (by decide +kernel), if_neg (by omega), if_pos rfl, ad 10 1 11 (by decide +kernel)]
        · rw [if_neg (by decide +kernel), if_pos (by decide +kernel), if_neg (by omega), if_neg (by omega), if_pos rfl, ad 100 1 101 (by decide +kernel)]
        · rw [if_neg (by decide +kernel), if_neg (by decide +kernel), if_pos (by decide +kernel), if_neg (by omega), if_neg (by omega), if_neg (by omega), if_pos rfl, ad 1000 10 1010 (by decide +kernel), ad 1010 1 1011 (by decide +kernel)]
        · rw [if_neg (by decide +kernel), if_neg (by decide +kernel), if_neg (by decide +kernel), if_pos (by decide +kernel), if_neg (by omega), if_neg (by omega), if_neg (by omega), if_neg (by omega), if_pos rfl, ad 10000 100 10100 (by decide +kernel), ad 10100 1 10101 (by decide +kernel)]
        · rw [if_neg (by decide +kernel), if_neg (by decide +kernel), if_neg (by decide +kernel), if_neg (by decide +kernel), if_pos (by decide +kernel), if_neg (by omega), if_neg (by omega), if_neg (by omega), if_neg (by omega), if_neg (by omega), ad 100000 1 100001 (by decide +kernel)]
      have j1 : ∀ t : Int64, Ok (j_X9_rate_1 μ tr (J x) (J cy) t) (fun z => z.1 = (if x = 0 then J (wt cy) else if x = 1 then J (wt cy) + J (gn wt (FS W H cd nf).2 cy (W * H)) else if x = 2 then J (wt cy) - J ((FS W H cd nf).2 2 cy) else if x = 3 then 2 * (J (wt cy) + J (gn wt (FS W H cd nf).2 cy (W * H))) else if x = 4 then J (wt cy) - J ((FS W H cd nf).2 2 cy) + J nf else J (wt cy) + μ 4 0) ∧ Ev9 μ z.2.1 ∧ z.2.2 = tr + t) := by
        intro t
        obtain ⟨w, hnow⟩ := now9 (tr := tr + t) a b
        unfold j_X9_rate_1
        refine ok_now hnow (fun z hz => ?_)
        obtain ⟨z9, ztd, zq⟩ := hz
        have i6 : (J (6 + (cy : Int))).toNatClampNeg = 6 + cy := by rw [jcl (by omega)]; omega
        have i32 : (J (32 + (cy : Int))).toNatClampNeg = 32 + cy := by rw [jcl (by omega)]; omega
        have g6 : z 2 (6 + cy) = J (wt cy) := by rw [zq 2 (by omega) (by omega) (by omega) (by omega)]; exact hw9 cy (by omega)
        have g32 : z 9 (32 + cy) = J ((FS W H cd nf).2 2 cy) := by
          have := (z9.2.2 cy hcy).2.2.1
          rw [Nat.mul_zero, Nat.zero_add] at this; exact this
        have z4 : z 4 = μ 4 := zq 4 (by omega) (by omega) (by omega) (by omega)
        have n7 : μ 4 1 = J nf := b.1.2.2.2.2.1
        have ge9 := gain_eq (tr := tr + t) (L := 0) w ztd (by omega) z9 (fun i hi => by rw [zq 2 (by omega) (by omega) (by omega) (by omega)]; exact hw9 i hi) hcy
        rw [show (J ((0 : Nat) : Int)) = (0 : Int32) from by decide +kernel] at ge9
        rw [ge9, Option.bind_some]
        obtain ⟨y0, y1, -⟩ := z35
        simp (disch := omega) only [L6, L32, L0, L1, L2, L3, L4, J_add, chk_J, i6, i32, g6, g32, y0, y1, z4, n7, jeq]
        rcases (show x = 0 ∨ x = 1 ∨ x = 2 ∨ x = 3 ∨ x = 4 ∨ x = 5 by omega) with g | g | g | g | g | g <;> subst g <;> simp [Ok_some] <;> exact Ev9.of zq
      have k9 : ∃ t : Int64, f_X9_rate μ tr (J x) (J cy) = j_X9_rate_1 μ tr (J x) (J cy) t ∧ t = (if x = 0 then 1 else if x = 1 then 11 else if x = 2 then 101 else if x = 3 then 1011 else if x = 4 then 10101 else 100001) := by
        unfold f_X9_rate
        rw [i9, Option.bind_some, if_pos q, if_neg (by decide +kernel), isCell9_eq a.td hn hy, if_pos q2, Option.bind_some, if_neg (by decide +kernel)]
        simp (disch := omega) only [L0, L1, L2, L3, L4, jeq]
        rcases (show x = 0 ∨ x = 1 ∨ x = 2 ∨ x = 3 ∨ x = 4 ∨ x = 5 by omega) with g | g | g | g | g | g <;> subst g
        · exact ⟨1, by simp, by simp⟩
        · exact ⟨11, by simp, by simp⟩
        · exact ⟨101, by simp, by simp⟩
        · exact ⟨1011, by simp, by simp⟩
        · exact ⟨10101, by simp, by simp⟩
        · exact ⟨100001, by simp, by simp⟩
      obtain ⟨t, k91, k92⟩ := k9
      obtain ⟨z, z1, z2, z3, z4⟩ := j1 t
      refine ⟨_, z, k8, by rw [k91]; exact z1, ?_, ?_⟩
      · rw [z2]
        rcases (show x = 0 ∨ x = 1 ∨ x = 2 ∨ x = 3 ∨ x = 4 ∨ x = 5 by omega) with g | g | g | g | g | g <;> subst g <;> simp
      · have hh := h'.cong (Ev8.refl σ) z3
        obtain ⟨-, rest⟩ := hh
        refine ⟨?_, rest⟩
        rw [z4, k92]
        rcases (show x = 0 ∨ x = 1 ∨ x = 2 ∨ x = 3 ∨ x = 4 ∨ x = 5 by omega) with g | g | g | g | g | g <;> subst g <;> simp
    · refine ⟨(-1000000, tr), (-1000000, μ, tr), ?_, ?_, rfl, h'⟩
      · unfold f_X8_rate
        rw [if_neg (fun g => by have := c1.mp g; omega), if_neg (fun g => by have := c2.mp g; omega), isCell8_eq b.2.1 hn hy, if_neg q2, Option.bind_some, if_pos (by decide +kernel)]
      · unfold f_X9_rate
        rw [i9, Option.bind_some, if_pos q, if_neg (by decide +kernel), isCell9_eq a.td hn hy, if_neg q2, Option.bind_some, if_pos (by decide +kernel)]
  · refine ⟨(-1000000, tr), (-1000000, μ, tr), ?_, ?_, rfl, h'⟩
    · unfold f_X8_rate
      by_cases g : x < 0
      · rw [if_pos (c1.mpr g)]
      · rw [if_neg (fun g' => g (c1.mp g')), if_pos (c2.mpr (by omega))]
    · unfold f_X9_rate
      rw [i9, Option.bind_some, if_neg q, if_pos (by decide +kernel)]
