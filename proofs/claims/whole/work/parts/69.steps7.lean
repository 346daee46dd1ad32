/-! ===== the steps: plans ===== -/
theorem ev8_sp (σ z4 z5 : Sg) : Ev8 σ (sg_sp (sg_sp σ 43 22 z4) 43 22 z5) := ⟨by rw [spn (by omega), spn (by omega)], by funext i; rw [spn (by omega), spn (by omega)], fun q q1 q2 => by funext i; rw [spn (by omega), spn (by omega)]⟩
theorem c_m1 {x : Int} (hx : -2147483648 ≤ x ∧ x ≤ 2147483647) : ((-1 : Int32) ≤ J x ↔ -1 ≤ x) ∧ (J x = (-1 : Int32) ↔ x = -1) := by
  rw [show (-1 : Int32) = J (-1) from by decide +kernel]
  exact ⟨jle (by omega) hx, jeq hx (by omega)⟩
theorem st_reach : LS_reach Rel := by
  intro σ tr μ tm h p1 p2 p3
  have h' := h
  obtain ⟨e, T, len, W, H, te, wt, mq, qa, qb, it, tn, ms, sa, sb, m, ca, cb, nf, cd, dn, a, b, c, d⟩ := h
  obtain ⟨x, rfl, hx⟩ := j_of p1
  obtain ⟨y, rfl, hy⟩ := j_of p2
  obtain ⟨i, rfl, hi⟩ := j_of p3
  have hn := a.n16
  obtain ⟨w, hnow⟩ := now9 (tr := tm) a b
  obtain ⟨cm, ce⟩ := c_m1 hi
  by_cases q : ((0 ≤ x ∧ x < ((W * H : Nat) : Int)) ∧ (0 ≤ y ∧ y < ((W * H : Nat) : Int)) ∧ ¬ x = y) ∧ -1 ≤ i
  · obtain ⟨q, qi⟩ := q
    obtain ⟨cx, rfl⟩ := Int.eq_ofNat_of_zero_le q.1.1
    obtain ⟨cy, rfl⟩ := Int.eq_ofNat_of_zero_le q.2.1.1
    have hcx : cx < W * H := by omega
    have hcy : cy < W * H := by omega
    have hT := T1_TI (a := cx) (b := cy) hcx hcy
    -- the answer of a row
    have k8 : Ok (f_X8_reach σ tr (J cx) (J cy) (J i)) (fun z => Ev8 σ z.2 ∧ ((∃ m row, m ≤ 3 ∧ (∀ m', m' < m → rS (W * H) (T1 cx cy) a24 m' (FS W H cd nf) = none) ∧ rS (W * H) (T1 cx cy) a24 m (FS W H cd nf) = some row ∧ z.1 = J (if i = -1 then (m : Int) else if 0 ≤ i ∧ i < m then ((row.getD i.toNat 0 : Nat) : Int) else -5)) ∨ ((∀ m, m ≤ 3 → rS (W * H) (T1 cx cy) a24 m (FS W H cd nf) = none) ∧ z.1 = J (-9)))) := by
      unfold f_X8_reach
      rw [areTwo8_eq b.2.1 hn hx hy, if_pos q, Option.bind_some, if_neg (by decide +kernel), if_pos (cm.mpr qi), Ok_bind]
      refine (start_ok (σ := sg_off σ 43) hn b.2.1).mono (fun z4 hz4 => ?_)
      rw [Ok_bind]
      have hp4 : HP (W * H) (FS W H cd nf) (sg_off (sg_off (sg_sp σ 43 22 z4) 43) 4) := hz4.1.cong (fun q hq => by funext i; rw [sof, sof, sps (by omega), sof]; congr 1; omega)
      have h00 : (sg_off (sg_sp σ 43 22 z4) 43) 0 0 = J 0 := by rw [sof, sps (by omega)]; exact hz4.2
      refine (findMeeting_ok w hp4 h00 hcx hcy).mono (fun z5 hz5 => ?_)
      have sub : ∀ q, q < 22 → (sg_off (sg_sp (sg_sp σ 43 22 z4) 43 22 z5.2) 43) q = z5.2 q := fun q hq => by funext i; rw [sof, sps (by omega), show 43 + q - 43 = q by omega]
      have ev := ev8_sp σ z4 z5.2
      rcases hz5 with ⟨mm, row, m3, r1, r2, r3, r4, r5⟩ | ⟨r1, r2⟩
      · rw [if_neg (by rw [r3]; decide +kernel)]
        have f0 : (sg_sp (sg_sp σ 43 22 z4) 43 22 z5.2) 43 0 = J mm := by
          have := congrFun (sub 0 (by omega)) 0
          rw [sof] at this; rw [this]; exact r4
        by_cases i1 : i = -1
        · rw [if_pos (ce.mpr i1), Ok_some]
          refine ⟨ev, Or.inl ⟨mm, row, m3, fun m' hm' => by rw [rS_eq hT m' _ w]; exact r1 m' hm', by rw [rS_eq hT mm _ w]; exact r2, ?_⟩⟩
          rw [if_pos i1]; exact f0
        · rw [if_neg (fun g => i1 (ce.mp g)), foundFold_eq (m := mm) (row := row) m3 (by rw [sub 0 (by omega)]; exact r4) (fun j hj => by rw [sub 1 (by omega)]; exact r5 j hj) hi, Option.bind_some, Ok_some]
          refine ⟨ev, Or.inl ⟨mm, row, m3, fun m' hm' => by rw [rS_eq hT m' _ w]; exact r1 m' hm', by rw [rS_eq hT mm _ w]; exact r2, ?_⟩⟩
          rw [if_neg i1]
      · rw [if_pos (by rw [r2]; decide +kernel), Ok_some, L9, J_neg]
        exact ⟨ev, Or.inr ⟨fun m hm => by rw [rS_eq hT m _ w]; exact r1 m hm, rfl⟩⟩
    have k9 : Ok (f_X9_reach μ tm (J cx) (J cy) (J i)) (fun z => Ev9 μ z.2 ∧ ((∃ m row, m ≤ 3 ∧ (∀ m', m' < m → rS (W * H) (T1 cx cy) a24 m' (FS W H cd nf) = none) ∧ rS (W * H) (T1 cx cy) a24 m (FS W H cd nf) = some row ∧ z.1 = J (if i = -1 then (m : Int) else if 0 ≤ i ∧ i < m then ((row.getD i.toNat 0 : Nat) : Int) else -5)) ∨ ((∀ m, m ≤ 3 → rS (W * H) (T1 cx cy) a24 m (FS W H cd nf) = none) ∧ z.1 = J (-9)))) := by
      unfold f_X9_reach
      rw [areTwo9_eq a.td hn hx hy, if_pos q, Option.bind_some, if_neg (by decide +kernel), if_pos (cm.mpr qi)]
      refine ok_now hnow (fun z hz => ?_)
      obtain ⟨z9, ztd, zq⟩ := hz
      have ev0 := Ev9.of zq
      rw [show (0 : Int32) = J ((0 : Nat) : Int) from by decide +kernel]
      refine Ok_for2 4 (fun mm g => FR 0 z g ∧ ∀ m', m' < mm → rS (W * H) (T1 cx cy) a24 m' (FS W H cd nf) = none) (fun mm g κ hm hj hκ => ?_) (fun g κ hj => ?_) 1000 0 _ (by omega) (by omega) ⟨FR.refl 0 z, fun m' hm' => by omega⟩
      · obtain ⟨j1, j2⟩ := hj
        unfold s_X9_reach_29
        rw [if_neg (by rw [L4, jle (by omega) (by omega)]; omega), Ok_bind]
        refine (reaches_ok (tr := tm) hn w (j1.td ztd) (j1.h9 (Nat.le_refl 0) hn z9) hcx hcy (m := mm) (by omega)).mono (fun y hy => ?_)
        obtain ⟨y1, y2⟩ := hy
        have bd := encR_bd (n := W * H) (T := T1 cx cy) (S := FS W H cd nf) (m := mm) (by omega)
        cases hr : rS (W * H) (T1 cx cy) a24 mm (FS W H cd nf) with
        | none =>
          rw [hr] at y2
          rw [if_pos (by rw [y2]; decide +kernel), L1, J_add]
          refine hκ _ ⟨j1.trans y1, fun m' hm' => ?_⟩
          by_cases g : m' = mm
          · rw [g]; exact hr
          · exact j2 m' (by omega)
        | some row =>
          rw [hr] at y2 bd
          obtain ⟨l1, l2⟩ := rS_len mm _ row hr
          rw [if_neg (by rw [y2, L9, J_neg, jeq (by omega) (by omega)]; intro g; have := bd.2.2.mp g; cases this)]
          have ev : Ev9 μ y.2 := ev0.trans (Ev9.of (j1.trans y1).1)
          unfold j_X9_reach_1
          by_cases i1 : i = -1
          · rw [if_pos (ce.mpr i1), Ok_some]
            exact ⟨ev, Or.inl ⟨mm, row, by omega, j2, hr, by rw [if_pos i1]⟩⟩
          · rw [if_neg (fun g => i1 (ce.mp g)), y2]
            have me := member_eq (row := row) (by omega) (fun k hk => mem_a24.mp (l2 k hk)) (i := i) (by omega)
            rw [l1] at me
            show Ok ((f_X9_member (J (encL row)) (J mm) (J i)).bind _) _
            rw [me, Option.bind_some, Ok_some]
            refine ⟨ev, Or.inl ⟨mm, row, by omega, j2, hr, ?_⟩⟩
            rw [if_neg i1]
            refine congrArg J ?_
            by_cases g : i < (mm : Int)
            · rw [if_pos g, if_pos (by omega)]
            · rw [if_neg g, if_neg (by omega)]
      · unfold s_X9_reach_29
        rw [if_pos (by decide +kernel), Ok_some, L9, J_neg]
        exact ⟨ev0.trans (Ev9.of hj.1.1), Or.inr ⟨fun m hm => hj.2 m (by omega), rfl⟩⟩
    obtain ⟨z, z0, z1, z2⟩ := k8
    obtain ⟨u, u0, u1, u2⟩ := k9
    refine ⟨z, u, z0, u0, ?_, h'.cong z1 u1⟩
    rcases z2 with ⟨m1, row1, a1, a2, a3, a4⟩ | ⟨a1, a2⟩
    · rcases u2 with ⟨m2, row2, b1, b2, b3, b4⟩ | ⟨b1, b2⟩
      · have em : m1 = m2 := by
          rcases Nat.lt_trichotomy m1 m2 with g | g | g
          · have := b2 m1 g; rw [a3] at this; cases this
          · exact g
          · have := a2 m2 g; rw [b3] at this; cases this
        subst em
        rw [a3] at b3
        rw [a4, b4, Option.some.inj b3]
      · have := b1 m1 a1; rw [a3] at this; cases this
    · rcases u2 with ⟨m2, row2, b1, b2, b3, b4⟩ | ⟨b1, b2⟩
      · have := a1 m2 b1; rw [b3] at this; cases this
      · rw [a2, b2]
  · refine ⟨(-1, σ), (-1, μ), ?_, ?_, rfl, h'⟩
    · unfold f_X8_reach
      rw [areTwo8_eq b.2.1 hn hx hy, Option.bind_some]
      by_cases q1 : (0 ≤ x ∧ x < ((W * H : Nat) : Int)) ∧ (0 ≤ y ∧ y < ((W * H : Nat) : Int)) ∧ ¬ x = y
      · rw [if_pos q1, if_neg (by decide +kernel), if_neg (fun g => q ⟨q1, cm.mp g⟩)]
      · rw [if_neg q1, if_pos (by decide +kernel)]
    · unfold f_X9_reach
      rw [areTwo9_eq a.td hn hx hy, Option.bind_some]
      by_cases q1 : (0 ≤ x ∧ x < ((W * H : Nat) : Int)) ∧ (0 ≤ y ∧ y < ((W * H : Nat) : Int)) ∧ ¬ x = y
      · rw [if_pos q1, if_neg (by decide +kernel), if_neg (fun g => q ⟨q1, cm.mp g⟩)]
      · rw [if_neg q1, if_pos (by decide +kernel)]
theorem st_serves : LS_serves Rel := by
  intro σ tr μ tm h p1 p2
  have h' := h
  obtain ⟨e, T, len, W, H, te, wt, mq, qa, qb, it, tn, ms, sa, sb, m, ca, cb, nf, cd, dn, a, b, c, d⟩ := h
  obtain ⟨x, rfl, hx⟩ := j_of p1
  obtain ⟨i, rfl, hi⟩ := j_of p2
  have hn := a.n16
  obtain ⟨w, hnow⟩ := now9 (tr := tm) a b
  obtain ⟨cm, ce⟩ := c_m1 hi
  have hwt := a.2.2.1.2.2.2.1
  by_cases q : (0 ≤ x ∧ x < ((W * H : Nat) : Int)) ∧ -1 ≤ i
  · obtain ⟨q, qi⟩ := q
    obtain ⟨cx, rfl⟩ := Int.eq_ofNat_of_zero_le q.1
    have hcx : cx < W * H := by omega
    have hG := gn_TG (n := W * H) (wt := wt) (c := cx) hcx
    have k8 : Ok (f_X8_serves σ tr (J cx) (J i)) (fun z => Ev8 σ z.2 ∧ ∃ gb mb row, VS (W * H) (fun P => gn wt P cx (W * H)) p12 (FS W H cd nf) gb mb row ∧ z.1 = J (if i = -1 then gb else if 0 ≤ i ∧ i < (mb : Int) then ((row.getD i.toNat 0 : Nat) : Int) else -5)) := by
      unfold f_X8_serves
      rw [isCell8_eq b.2.1 hn hx, if_pos q, Option.bind_some, if_neg (by decide +kernel), if_pos (cm.mpr qi), Ok_bind]
      refine (start_ok (σ := sg_off σ 43) hn b.2.1).mono (fun z4 hz4 => ?_)
      rw [Ok_bind]
      have hp4 : HP (W * H) (FS W H cd nf) (sg_off (sg_off (sg_sp σ 43 22 z4) 43) 4) := hz4.1.cong (fun q hq => by funext i; rw [sof, sof, sps (by omega), sof]; congr 1; omega)
      have h00 : (sg_off (sg_sp σ 43 22 z4) 43) 0 0 = J 0 := by rw [sof, sps (by omega)]; exact hz4.2
      refine (bestGain_ok (τ := sg_off (sg_sp σ 43 22 z4) 10) w hp4 h00 (wt := wt) (fun j hj => ⟨by rw [sof, spn (by omega)]; exact a.2.2.2.1.2.2.2.1 j hj, hwt j hj⟩) hcx).mono (fun z5 hz5 => ?_)
      obtain ⟨gb, mb, row, g1, g2, g3, g4, g5, g6⟩ := hz5
      have sub : ∀ q, q < 22 → (sg_off (sg_sp (sg_sp σ 43 22 z4) 43 22 z5.2) 43) q = z5.2 q := fun q hq => by funext i; rw [sof, sps (by omega), show 43 + q - 43 = q by omega]
      have ev := ev8_sp σ z4 z5.2
      have mb3 := g4.2.2.1
      by_cases i1 : i = -1
      · rw [if_pos (ce.mpr i1), Ok_some]
        exact ⟨ev, gb, mb, row, g4, by rw [if_pos i1]; exact g1⟩
      · rw [if_neg (fun g => i1 (ce.mp g)), foundFold_eq (m := mb) (row := row) (by omega) (by rw [sub 0 (by omega)]; exact g5) (fun j hj => by rw [sub 1 (by omega)]; exact g6 j hj) hi, Option.bind_some, Ok_some]
        exact ⟨ev, gb, mb, row, g4, by rw [if_neg i1]⟩
    have k9 : Ok (f_X9_serves μ tm (J cx) (J i)) (fun z => Ev9 μ z.2 ∧ ∃ gb mb row, VS (W * H) (fun P => gn wt P cx (W * H)) a24 (FS W H cd nf) gb mb row ∧ z.1 = J (if i = -1 then gb else if 0 ≤ i ∧ i < (mb : Int) then ((row.getD i.toNat 0 : Nat) : Int) else -5)) := by
      unfold f_X9_serves
      rw [isCell9_eq a.td hn hx, if_pos q, Option.bind_some, if_neg (by decide +kernel), if_pos (cm.mpr qi)]
      refine ok_now hnow (fun z hz => ?_)
      obtain ⟨z9, ztd, zq⟩ := hz
      have ev0 := Ev9.of zq
      have hg : FQ 0 z (sg_st z 0 19 (-1)) := ⟨fun q q0 _ _ _ _ => by funext j; rw [sgn q0], fun j b1 b2 b3 => by rw [sgs, if_neg b1], fun j _ => by rw [sgn (by omega)], fun j _ => by rw [sgn (by omega)]⟩
      have z2 : (sg_st z 0 19 (-1)) 2 = μ 2 := by rw [hg.1 2 (by omega) (by omega) (by omega) (by omega) (by omega), zq 2 (by omega) (by omega) (by omega) (by omega)]
      rw [L0]
      refine serves_loop (tr := tm) hn w (hg.td ztd) (hg.h9 (Nat.le_refl 0) hn z9) (wt := wt) (fun j hj => ⟨by rw [z2]; exact a.2.2.2.2.1.2.2.2.2.2.2.1 j hj, hwt j hj⟩) hcx (by rw [sgs, if_pos rfl]; decide +kernel) (fun g' gb mb row f1 v1 v2 v3 v4 v5 v6 v7 => ?_)
      have ev : Ev9 μ g' := ev0.trans (Ev9.ofQ (hg.trans f1))
      unfold j_X9_serves_1
      by_cases i1 : i = -1
      · rw [if_pos (ce.mpr i1), Ok_some]
        exact ⟨ev, gb, mb, row, v1, by rw [if_pos i1]; exact v2⟩
      · rw [if_neg (fun g => i1 (ce.mp g)), v3, v4]
        have me := member_eq (row := row) (by omega) v7 (i := i) (by omega)
        rw [v5] at me
        rw [me, Option.bind_some, Ok_some]
        refine ⟨ev, gb, mb, row, v1, ?_⟩
        rw [if_neg i1]
        refine congrArg J ?_
        by_cases g : i < (mb : Int)
        · rw [if_pos g, if_pos (by omega)]
        · rw [if_neg g, if_neg (by omega)]
    obtain ⟨z, z0, z1, gb, mb, row, z2, z3⟩ := k8
    obtain ⟨u, u0, u1, gb', mb', row', u2, u3⟩ := k9
    obtain ⟨e1, e2, e3⟩ := VS_uniq z2 (VS_eq hG w u2)
    subst e1; subst e2; subst e3
    exact ⟨z, u, z0, u0, by rw [z3, u3], h'.cong z1 u1⟩
  · refine ⟨(-1, σ), (-1, μ), ?_, ?_, rfl, h'⟩
    · unfold f_X8_serves
      rw [isCell8_eq b.2.1 hn hx, Option.bind_some]
      by_cases q1 : 0 ≤ x ∧ x < ((W * H : Nat) : Int)
      · rw [if_pos q1, if_neg (by decide +kernel), if_neg (fun g => q ⟨q1, cm.mp g⟩)]
      · rw [if_neg q1, if_pos (by decide +kernel)]
    · unfold f_X9_serves
      rw [isCell9_eq a.td hn hx, Option.bind_some]
      by_cases q1 : 0 ≤ x ∧ x < ((W * H : Nat) : Int)
      · rw [if_pos q1, if_neg (by decide +kernel), if_neg (fun g => q ⟨q1, cm.mp g⟩)]
      · rw [if_neg q1, if_pos (by decide +kernel)]
theorem st_fits : LS_fits Rel := by
  intro σ tr μ tm h p1
  have h' := h
  obtain ⟨e, T, len, W, H, te, wt, mq, qa, qb, it, tn, ms, sa, sb, m, ca, cb, nf, cd, dn, a, b, c, d⟩ := h
  obtain ⟨x, rfl, hx⟩ := j_of p1
  have hn := a.n16
  obtain ⟨⟨o1, o2⟩, ⟨o3, o4⟩, -⟩ := a.2.2.1
  obtain ⟨s1, s2, s3, s4⟩ := a.2.2.2.2.2.1
  have w : WF (W * H) (Fl W H) := WF_Fl o1 o2 o3 o4
  have i9 : f_X9_in (J x) 0 2 = some (J (if 0 ≤ x ∧ x ≤ 2 then 1 else 0)) := by rw [L0, L2]; exact in_eq hx (by omega) (by omega)
  have c1 : (J x < 0) ↔ x < 0 := by rw [L0, jlt hx (by omega)]
  have c2 : (J x ≤ (2 : Int32)) ↔ x ≤ 2 := by rw [L2, jle hx (by omega)]
  by_cases q : 0 ≤ x ∧ x ≤ 2
  · obtain ⟨mm, rfl⟩ := Int.eq_ofNat_of_zero_le q.1
    have hmm : mm ≤ 2 := by omega
    have hr : ∀ j, j < ms → sa j < W * H ∧ sb j < W * H := fun j hj => ⟨(s4 j hj).2.2.1, (s4 j hj).2.2.2⟩
    have hT := allT_TI (n := W * H) (qa := sa) (qb := sb) (m := ms) hr
    have k8 : Ok (f_X8_fits σ tr (J mm)) (fun z => Ev8 σ z.2 ∧ z.1 = J ((2 ^ mm * cF (W * H) (fun P => allT sa sb P ms) p12 mm (Fl W H) : Nat) : Int)) := by
      unfold f_X8_fits
      rw [if_neg (fun g => by have := c1.mp g; omega), if_pos (c2.mpr (by omega)), Ok_bind]
      refine (start_ok (σ := sg_off σ 43) hn a.2.2.2.2.2.2.1).mono (fun z4 hz4 => ?_)
      rw [Ok_bind]
      have hp4 : HP (W * H) (Fl W H) (sg_off (sg_off (sg_sp σ 43 22 z4) 43) 4) := hz4.1.cong (fun q hq => by funext i; rw [sof, sof, sps (by omega), sof]; congr 1; omega)
      have hq4 : HQ ms sa sb (sg_off (sg_sp σ 43 22 z4) 40) := ⟨by rw [sof, spn (by omega)]; exact s2.1, fun j hj => by rw [sof, spn (by omega), sof, spn (by omega)]; exact s2.2 j hj⟩
      refine (countFitting_ok w hp4 s1 hq4 hr hmm).mono (fun z5 hz5 => ?_)
      rw [Ok_some]
      exact ⟨ev8_sp σ z4 z5.2, hz5⟩
    have k9 : Ok (f_X9_fits μ tm (J mm)) (fun z => Ev9 μ z.2 ∧ z.1 = J ((cF (W * H) (fun P => allT sa sb P ms) a24 mm (Fl W H) : Nat) : Int)) := by
      unfold f_X9_fits
      rw [i9, if_pos q, Option.bind_some, if_neg (by decide +kernel), Ok_bind]
      refine (flat_ok o1 o2 o3 o4 a.td).mono (fun z hz => ?_)
      obtain ⟨z9, zq⟩ := hz
      have z0 : z 0 = μ 0 := zq 0 (by omega) (by omega)
      have ztd : TD W H z := a.td.cong (zq 2 (by omega) (by omega))
      have ev0 : Ev9 μ z := ⟨by rw [z0], by rw [z0], fun q a b c => zq q (by omega) (by omega)⟩
      have zs : ∀ j, j < ms → z 7 j = J (sa j) ∧ z 8 j = J (sb j) ∧ sa j < W * H ∧ sb j < W * H := fun j hj => by rw [zq 7 (by omega) (by omega), zq 8 (by omega) (by omega)]; exact s4 j hj
      have z10 : z 0 10 = J ms := by rw [z0]; exact s3
      rcases (show mm = 0 ∨ ∃ k, mm = k + 1 ∧ k ≤ 1 by rcases mm with _ | k; exact Or.inl rfl; exact Or.inr ⟨k, rfl, by omega⟩) with g | ⟨k, g, hk⟩
      · subst g
        rw [if_pos (by decide +kernel), show (0 : Int32) = J ((0 : Nat) : Int) from by decide +kernel, fitsAt_eq (tr := tm) (L := 0) w (by omega) z9 s1 z10 zs, Option.bind_some, show (1000 : Nat) = 999 + 1 from rfl]
        show Ok (s_X9_fits_31q _ _ _ _ _ _) _
        unfold s_X9_fits_31q
        rw [if_neg (by decide +kernel), if_pos (by decide +kernel), Ok_some]
        refine ⟨ev0, ?_⟩
        refine congrArg J ?_
        unfold cF
        cases allT sa sb (Fl W H).2 ms <;> rfl
      · subst g
        rw [if_neg (by rw [L0, jeq (by omega) (by omega)]; omega), L0]
        refine (fits9_ok (tr := tm) hn w ztd z9 s1 z10 zs hk).mono (fun y hy => ?_)
        exact ⟨ev0.trans (Ev9.of hy.1.1), hy.2⟩
    obtain ⟨z, z0, z1, z2⟩ := k8
    obtain ⟨u, u0, u1, u2⟩ := k9
    refine ⟨z, u, z0, u0, ?_, h'.cong z1 u1⟩
    rw [z2, u2, cF_eq hT mm _ w]
  · refine ⟨(-1, σ), (-1, μ), ?_, ?_, rfl, h'⟩
    · unfold f_X8_fits
      by_cases q1 : x < 0
      · rw [if_pos (c1.mpr q1)]
      · rw [if_neg (fun g => q1 (c1.mp g)), if_neg (fun g => by have := c2.mp g; omega)]
    · unfold f_X9_fits
      rw [i9, if_neg q, Option.bind_some, if_pos (by decide +kernel)]
