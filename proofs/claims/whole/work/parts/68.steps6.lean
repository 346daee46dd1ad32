/-! ===== the steps: creases asked, a fold ===== -/
theorem st_bent : LS_bent Rel := by
  intro σ tr μ tm h p1 p2
  have h' := h
  obtain ⟨e, T, len, W, H, te, wt, mq, qa, qb, it, tn, ms, sa, sb, m, ca, cb, nf, cd, dn, a, b, c, d⟩ := h
  obtain ⟨x, rfl, hx⟩ := j_of p1
  obtain ⟨y, rfl, hy⟩ := j_of p2
  have hn := a.n16
  obtain ⟨⟨o1, o2⟩, ⟨o3, o4⟩, -⟩ := a.2.2.1
  have hc := a.2.2.2.2.2.2.2
  have hrb := b.1.2.2.2.2.2.2.2.1
  -- the reference's answer, of a lower and a higher cell
  have low : ∀ lo hi : Nat, lo < hi → hi < W * H → ∃ r, j_X9_bent_2 μ tm (J lo) (J hi) = some r ∧ ((crB W (W * H) lo hi = true ∧ r = J (Bt W H cd dn nf lo hi)) ∨ (¬ crB W (W * H) lo hi = true ∧ r = -1)) := by
    intro lo hi h1 h2
    have n0 := nbr_eq (tr := tm) (way := 0) o1 o2 hn a.td (show lo < W * H by omega) (by omega)
    have n1 := nbr_eq (tr := tm) (way := 1) o1 o2 hn a.td (show lo < W * H by omega) (by omega)
    rw [nb_ex] at n0 n1
    have i8 : (J (8 + (lo : Int))).toNatClampNeg = 8 + lo := by rw [jcl (by omega)]; omega
    have i24 : (J (24 + (lo : Int))).toNatClampNeg = 24 + lo := by rw [jcl (by omega)]; omega
    unfold j_X9_bent_2
    rw [show (0 : Int32) = J ((0 : Nat) : Int) from by decide +kernel, n0, Option.bind_some]
    have p0 : pb W lo 0 = lo + 1 := rfl
    have p1 : pb W lo 1 = lo + W := rfl
    by_cases e0 : ex W (W * H) lo 0 = true ∧ lo + 1 = hi
    · have cr := ex_cr o1 (show lo < W * H by omega) e0.1
      rw [p0, e0.2] at cr
      have v := hrb lo 0 (by omega) (by omega) e0.1
      rw [p0, e0.2] at v
      rw [if_pos e0.1, p0, e0.2, if_pos rfl, L8, J_add, chk_J (by omega), i8]
      exact ⟨_, rfl, Or.inl ⟨cr, by rw [← v]⟩⟩
    · rw [if_neg (by
        intro g
        by_cases g0 : ex W (W * H) lo 0 = true
        · rw [if_pos g0, p0, jeq (by omega) (by omega)] at g
          exact e0 ⟨g0, by omega⟩
        · rw [if_neg g0, jeq (by omega) (by omega)] at g
          omega), show (1 : Int32) = J ((1 : Nat) : Int) from by decide +kernel, n1, Option.bind_some]
      by_cases e1 : ex W (W * H) lo 1 = true ∧ lo + W = hi
      · have cr := ex_cr o1 (show lo < W * H by omega) e1.1
        rw [p1, e1.2] at cr
        have v := hrb lo 1 (by omega) (by omega) e1.1
        rw [p1, e1.2] at v
        rw [if_pos e1.1, p1, e1.2, if_pos rfl, L24, J_add, chk_J (by omega), i24]
        exact ⟨_, rfl, Or.inl ⟨cr, by rw [← v]⟩⟩
      · rw [if_neg (by
          intro g
          by_cases g0 : ex W (W * H) lo 1 = true
          · rw [if_pos g0, p1, jeq (by omega) (by omega)] at g
            exact e1 ⟨g0, by omega⟩
          · rw [if_neg g0, jeq (by omega) (by omega)] at g
            omega)]
        refine ⟨_, rfl, Or.inr ⟨fun g => ?_, rfl⟩⟩
        obtain ⟨way, w1, w2, w3⟩ := cr_ex g
        rcases (show way = 0 ∨ way = 1 by omega) with g' | g' <;> subst g'
        · exact e0 ⟨w2, w3⟩
        · exact e1 ⟨w2, w3⟩
  obtain ⟨r, r1, r2⟩ := find_ok hn hc hx hy
  have k8 : ∃ o, f_X8_bent σ tr (J x) (J y) = some o ∧ ((∃ i, i < m ∧ ((x = ca i ∧ y = cb i) ∨ (y = ca i ∧ x = cb i)) ∧ o = J (Bt W H cd dn nf (ca i) (cb i))) ∨ ((∀ i, i < m → ¬ ((x = ca i ∧ y = cb i) ∨ (y = ca i ∧ x = cb i))) ∧ o = -1)) := by
    unfold f_X8_bent
    rw [r1, Option.bind_some]
    rcases r2 with ⟨i, hi, e1, e2⟩ | ⟨e1, e2⟩
    · have hm := hc.2.1
      have ii : (J (i : Int)).toNatClampNeg = i := by rw [jcl (by omega)]; omega
      rw [e1, if_neg (by rw [L9, J_neg, jeq (by omega) (by omega)]; omega), chk_J (by omega), ii]
      exact ⟨_, rfl, Or.inl ⟨i, hi, e2, b.2.2 i hi⟩⟩
    · rw [e1, if_pos (by decide +kernel)]
      exact ⟨_, rfl, Or.inr ⟨e2, rfl⟩⟩
  obtain ⟨o, o8, o9⟩ := k8
  have k9 : ∃ r, f_X9_bent μ tm (J x) (J y) = some r ∧ r = o := by
    unfold f_X9_bent
    rw [areTwo9_eq a.td hn hx hy, Option.bind_some]
    by_cases q : (0 ≤ x ∧ x < ((W * H : Nat) : Int)) ∧ (0 ≤ y ∧ y < ((W * H : Nat) : Int)) ∧ ¬ x = y
    · rw [if_pos q, if_neg (by decide +kernel)]
      obtain ⟨cx, rfl⟩ := Int.eq_ofNat_of_zero_le q.1.1
      obtain ⟨cy, rfl⟩ := Int.eq_ofNat_of_zero_le q.2.1.1
      unfold j_X9_bent_1
      have fin : ∀ lo hi : Nat, lo < hi → hi < W * H → ((lo = cx ∧ hi = cy) ∨ (lo = cy ∧ hi = cx)) → ∃ r, j_X9_bent_2 μ tm (J lo) (J hi) = some r ∧ r = o := by
        intro lo hi h1 h2 h3
        obtain ⟨r, e1, e2⟩ := low lo hi h1 h2
        refine ⟨r, e1, ?_⟩
        rcases e2 with ⟨g1, g2⟩ | ⟨g1, g2⟩
        · rcases o9 with ⟨i, hi', g3, g4⟩ | ⟨g3, g4⟩
          · have cr := crB_iff.mp (hc.2.2.1 i hi').2.2
            have el : ca i = lo := by omega
            have eh : cb i = hi := by omega
            rw [g2, g4, el, eh]
          · obtain ⟨i, hi', f1, f2⟩ := hc.2.2.2 lo hi g1
            exact absurd (by omega) (g3 i hi')
        · rcases o9 with ⟨i, hi', g3, g4⟩ | ⟨g3, g4⟩
          · have cr' := (hc.2.2.1 i hi').2.2
            have cr := crB_iff.mp cr'
            have el : ca i = lo := by omega
            have eh : cb i = hi := by omega
            rw [el, eh] at cr'
            exact absurd cr' g1
          · rw [g2, g4]
      by_cases q2 : (cy : Int) ≤ (cx : Int)
      · have q2' : J (cy : Int) ≤ J (cx : Int) := (jle hy hx).mpr q2
        rw [if_pos q2', if_pos q2']
        exact fin cy cx (by omega) (by omega) (Or.inr ⟨rfl, rfl⟩)
      · have q2' : ¬ J (cy : Int) ≤ J (cx : Int) := fun g => q2 ((jle hy hx).mp g)
        rw [if_neg q2', if_neg q2']
        exact fin cx cy (by omega) (by omega) (Or.inl ⟨rfl, rfl⟩)
    · rw [if_neg q, if_pos (by decide +kernel)]
      refine ⟨_, rfl, ?_⟩
      rcases o9 with ⟨i, hi', g3, g4⟩ | ⟨g3, g4⟩
      · have cr := crB_iff.mp (hc.2.2.1 i hi').2.2
        exact absurd (by omega) q
      · rw [g4]
  obtain ⟨r', e1, e2⟩ := k9
  exact ⟨o, r', o8, e1, e2.symm, h'⟩
theorem FS_cong {W H : Nat} {cd cd' : Nat → Nat} : ∀ {k : Nat}, (∀ j, j < k → cd' j = cd j) → FS W H cd' k = FS W H cd k
  | 0, _ => rfl
  | k + 1, h => by
    show stp _ (FS W H cd' k) (cd' k) = stp _ (FS W H cd k) (cd k)
    rw [FS_cong (fun j hj => h j (by omega)), h k (by omega)]
theorem Bt_cong {W H : Nat} {cd cd' : Nat → Nat} {dn : Nat → Nat → Int} : ∀ {k : Nat}, (∀ j, j < k → cd' j = cd j) → Bt W H cd' dn k = Bt W H cd dn k
  | 0, _ => rfl
  | k + 1, h => by
    show Vb (Bt W H cd' dn k) (FS W H cd' k) (cd' k) 1 = Vb (Bt W H cd dn k) (FS W H cd k) (cd k) 1
    rw [Bt_cong (fun j hj => h j (by omega)), FS_cong (fun j hj => h j (by omega)), h k (by omega)]
theorem ext_sum {W H : Nat} (h1 : 1 ≤ W) (h2 : W ≤ 4) (h3 : 1 ≤ H) (h4 : H ≤ 4) {cd : Nat → Nat} : ∀ {k : Nat}, VC W H cd k → (FS W H cd k).1 0 + (FS W H cd k).1 1 + k ≤ W + H
  | 0, _ => by show (W : Int) + (H : Int) + 0 ≤ _; omega
  | k + 1, h => by
    have ih := ext_sum h1 h2 h3 h4 (cd := cd) (k := k) (fun j hj => h j (by omega))
    obtain ⟨v1, v2⟩ := h k (by omega)
    have hk := kln_pos (cd k)
    have fl : ∀ ea : Int, kln (cd k) < ea → fe ea (kln (cd k)) ≤ ea - 1 := fun ea he => by unfold fe; split <;> omega
    unfold vl at v2
    show (stp (W * H) (FS W H cd k) (cd k)).1 0 + (stp (W * H) (FS W H cd k) (cd k)).1 1 + ((k + 1 : Nat) : Int) ≤ _
    rcases Nat.mod_two_eq_zero_or_one (cd k) with e | e
    · rw [e] at v2
      have := fl _ v2
      rw [stp0 e]
      show fe ((FS W H cd k).1 0) (kln (cd k)) + (FS W H cd k).1 1 + _ ≤ _
      omega
    · rw [e] at v2
      have := fl _ v2
      rw [stp1 e]
      show (FS W H cd k).1 0 + fe ((FS W H cd k).1 1) (kln (cd k)) + _ ≤ _
      omega
theorem isBit_eq {x : Int} (hx : -2147483648 ≤ x ∧ x ≤ 2147483647) : f_X8_isBit (J x) = some (J (if 0 ≤ x ∧ x ≤ 1 then 1 else 0)) := by
  unfold f_X8_isBit
  simp (disch := omega) only [L0, L1, jeq]
  (repeat' split) <;> first | rfl | (exfalso; omega)
theorem st_fold : LS_fold Rel := by
  intro σ tr μ tm h p1 p2 p3 p4
  have h' := h
  obtain ⟨e, T, len, W, H, te, wt, mq, qa, qb, it, tn, ms, sa, sb, m, ca, cb, nf, cd, dn, a, b, c, d⟩ := h
  obtain ⟨ax, rfl, hax⟩ := j_of p1
  obtain ⟨ln, rfl, hln⟩ := j_of p2
  obtain ⟨pt, rfl, hpt⟩ := j_of p3
  obtain ⟨ov, rfl, hov⟩ := j_of p4
  have hn := a.n16
  obtain ⟨⟨o1, o2⟩, ⟨o3, o4⟩, ⟨o5, o6⟩, -⟩ := a.2.2.1
  have hc := a.2.2.2.2.2.2.2
  obtain ⟨a1, a2, a3, a4, a5, a6, a7, a8, a9⟩ := b.1
  obtain ⟨w, hnow⟩ := now9 (tr := tm) a b
  have in1 : ∀ v : Int, (-2147483648 ≤ v ∧ v ≤ 2147483647) → f_X9_in (J v) 0 1 = some (J (if 0 ≤ v ∧ v ≤ 1 then 1 else 0)) := fun v hv => by rw [L0, L1]; exact in_eq hv (by omega) (by omega)
  have in3 : f_X9_in (J ln) 1 3 = some (J (if 1 ≤ ln ∧ ln ≤ 3 then 1 else 0)) := by rw [L1, L3]; exact in_eq hln (by omega) (by omega)
  have cl1 : (J ln < 1) ↔ ln < 1 := by rw [L1, jlt hln (by omega)]
  have cl4 : (J ln < 4) ↔ ln < 4 := by rw [L4, jlt hln (by omega)]
  by_cases q : (0 ≤ ax ∧ ax ≤ 1) ∧ (1 ≤ ln ∧ ln ≤ 3) ∧ (0 ≤ pt ∧ pt ≤ 1) ∧ (0 ≤ ov ∧ ov ≤ 1)
  · obtain ⟨qa1, qln, qpt, qov⟩ := q
    -- the fold's number
    obtain ⟨k, hk, hkm, hkl, hkJ⟩ : ∃ k : Nat, k < 24 ∧ ((k % 2 : Nat) : Int) = ax ∧ kln k = ln ∧ J ax + 2 * J pt + 4 * J ov + 8 * (J ln - 1) = J k := by
      refine ⟨(ax + 2 * pt + 4 * ov + 8 * (ln - 1)).toNat, by omega, by omega, by unfold kln; omega, ?_⟩
      rw [L1, L2, L4, L8, J_mul, J_mul, J_add, J_add, J_sub, J_mul, J_add]
      exact congrArg J (by omega)
    have hV : ∀ x y, crB W (W * H) x y = true → 0 ≤ Bt W H cd dn nf x y ∧ Bt W H cd dn nf x y ≤ 20 := fun x y hxy => by
      have g := a9 x y hxy
      have g2 := Bt_mono (W := W) (H := H) (cd := cd) (dn := dn) x y nf
      omega
    have cb8 := canBend_eq w b.2.1 hk
    -- both, ahead of the bends
    have st8 : f_X8_fold σ tr (J ax) (J ln) (J pt) (J ov) = if vl (FS W H cd nf) k then (f_X0_wouldTear (sg_off σ 26) (sg_off σ 20) (J k) (σ 9 2)).bind (fun z11 => if z11 = 0 then (f_X2_addFold (sg_off σ 30) (J k)).bind fun z13 => (f_X8_bendBy (sg_sp σ 30 3 z13) tr (J k)).bind fun z14 => (f_X3_thickest (sg_off z14 20)).bind fun z15 => some (z15, z14) else some (-2, σ)) else some (-2, σ) := by
      unfold f_X8_fold
      rw [isBit_eq hax, isBit_eq hpt, isBit_eq hov, if_pos qa1, if_pos qpt, if_pos qov, Option.bind_some, if_neg (by decide +kernel), Option.bind_some, if_neg (by decide +kernel), Option.bind_some, if_neg (by decide +kernel), if_neg (fun g => by have := cl1.mp g; omega), if_pos (cl4.mpr (by omega)), hkJ, cb8, Option.bind_some]
      by_cases v : vl (FS W H cd nf) k
      · rw [if_pos v, if_pos v, if_neg (by decide +kernel)]
      · rw [if_neg v, if_neg v, if_pos (by decide +kernel)]
    have iax : (J ax).toNatClampNeg = k % 2 := by rw [jcl hax]; omega
    have y1 : (1 : Int32).toNatClampNeg = 1 := by decide
    have y2 : (2 : Int32).toNatClampNeg = 2 := by decide
    have st9 : ∀ P : Int32 × Sg → Prop, (∀ z, H9 (W * H) (FS W H cd nf) 0 z → TD W H z → (∀ q, q ≠ 9 → q ≠ 10 → q ≠ 11 → q ≠ 12 → z q = μ q) → (vl (FS W H cd nf) k → Ok ((f_X9_bendsAll z tm (J k) 1).bind fun z13 => chk 2 35 <| if z13.1 ≤ (z13.2 2 2) then chk 1 40 <| chk (2 + (z13.2 4 1)) 40 <| chk 1 40 <| chk 1 40 <| chk 1 40 <| (f_X9_now (sg_st (sg_st z13.2 4 ((2 + (z13.2 4 1)) : Int32).toNatClampNeg (J k)) 4 1 ((sg_st z13.2 4 ((2 + (z13.2 4 1)) : Int32).toNatClampNeg (J k)) 4 1 + 1)) tm ((sg_st (sg_st z13.2 4 ((2 + (z13.2 4 1)) : Int32).toNatClampNeg (J k)) 4 1 ((sg_st z13.2 4 ((2 + (z13.2 4 1)) : Int32).toNatClampNeg (J k)) 4 1 + 1)) 4 1)).bind fun z21 => (f_X9_thick z21 tm).bind fun z22 => some (z22, z21) else (f_X9_bendsAll z13.2 tm (J k) (-1)).bind fun z23 => some (-2, z23.2)) P) ∧ (¬ vl (FS W H cd nf) k → P (-2, z))) → Ok (f_X9_fold μ tm (J ax) (J ln) (J pt) (J ov)) P := by
      intro P hP
      unfold f_X9_fold
      rw [in1 ax hax, in3, in1 pt hpt, in1 ov hov, if_pos qa1, if_pos qln, if_pos qpt, if_pos qov, Option.bind_some, if_neg (by decide +kernel), Option.bind_some, if_neg (by decide +kernel), Option.bind_some, if_neg (by decide +kernel), Option.bind_some, if_neg (by decide +kernel), hkJ]
      refine ok_now hnow (fun z hz => ?_)
      obtain ⟨z9, ztd, zq⟩ := hz
      obtain ⟨P1, P2⟩ := hP z z9 ztd zq
      have zx : z 10 (k % 2) = J ((FS W H cd nf).1 (k % 2)) := by
        rcases Nat.mod_two_eq_zero_or_one k with g | g <;> rw [g]
        · exact z9.1
        · exact z9.2.1
      have be : (FS W H cd nf).1 (k % 2) ≤ 4 ∧ 1 ≤ (FS W H cd nf).1 (k % 2) := by
        have g1 := w.2.1
        have g2 := w.2.2.1
        rcases Nat.mod_two_eq_zero_or_one k with g | g <;> rw [g] <;> omega
      rw [chk_J (by omega), iax, zx, y1, y2]
      by_cases v : vl (FS W H cd nf) k
      · have v' : ln < (FS W H cd nf).1 (k % 2) := by unfold vl at v; rw [hkl] at v; exact v
        rw [if_pos ((jlt hln (by omega)).mpr v')]
        exact P1 v
      · have v' : ¬ ln < (FS W H cd nf).1 (k % 2) := by unfold vl at v; rw [hkl] at v; exact v
        rw [if_neg (fun g => v' ((jlt hln (by omega)).mp g)), Ok_some]
        exact P2 v
    by_cases v : vl (FS W H cd nf) k
    · rw [if_pos v] at st8
      have h29 : HV (Bt W H cd dn nf) m ca cb ((sg_off σ 26) 3) := b.2.2
      have te8 : σ 9 2 = J te := a.2.2.2.1.2.2.1
      obtain ⟨r, r1, r2⟩ := tear_ok w b.2.1 hc h29 hV (t := te) (by omega) hk
      rw [te8, r1, Option.bind_some] at st8
      have vbV : ∀ x y, crB W (W * H) x y = true → 0 ≤ Vb (Bt W H cd dn nf) (FS W H cd nf) k 1 x y ∧ Vb (Bt W H cd dn nf) (FS W H cd nf) k 1 x y ≤ 20 := fun x y hxy => by
        have g := hV x y hxy
        have g2 := a9 x y hxy
        unfold Vb; split <;> omega
      -- the reference's bends
      have ba : ∀ z, H9 (W * H) (FS W H cd nf) 0 z → TD W H z → (∀ q, q ≠ 9 → q ≠ 10 → q ≠ 11 → q ≠ 12 → z q = μ q) → Ok (f_X9_bendsAll z tm (J k) 1) (fun y => (∀ q, q ≠ 4 → y.2 q = z q) ∧ (∀ i, i < 8 → y.2 4 i = μ 4 i) ∧ RBp (Vb (Bt W H cd dn nf) (FS W H cd nf) k 1) W (W * H) 4 0 y.2 ∧ ∃ t : Int, y.1 = J t ∧ (0 ≤ t ∧ t ≤ 50) ∧ (∀ a b, crB W (W * H) a b = true → PT (FS W H cd nf) a b k = true → Vb (Bt W H cd dn nf) (FS W H cd nf) k 1 a b ≤ t) ∧ (t = 0 ∨ ∃ a b, crB W (W * H) a b = true ∧ PT (FS W H cd nf) a b k = true ∧ Vb (Bt W H cd dn nf) (FS W H cd nf) k 1 a b = t)) := by
        intro z z9 ztd zq
        have z4 : z 4 = μ 4 := zq 4 (by omega) (by omega) (by omega) (by omega)
        rw [L1]
        refine (bendsAll_ok (tr := tm) o1 o2 hn w ztd z9 (V := Bt W H cd dn nf) (fun x way hx hw he => by rw [z4]; exact a8 x way hx hw he) hV hk (by_ := 1) (Or.inl rfl)).mono (fun y hy => ?_)
        obtain ⟨b1, b2, b3, b4⟩ := hy
        exact ⟨b1, fun i hi => by rw [b2 i hi, z4], b3, b4⟩
      have tel : (1 ≤ te ∧ te ≤ 9) := ⟨o5, o6⟩
      rcases r2 with ⟨e0, noT⟩ | ⟨e1, x0, y0, hcr, hp, hge⟩
      · -- it may be
        rw [e0, if_pos (by decide +kernel)] at st8
        have es := ext_sum o1 o2 o3 o4 a2
        have nf5 : nf ≤ 5 := by
          have g1 := w.2.1
          have g2 := w.2.2.1
          have g3 := kln_pos k
          unfold vl at v
          rcases Nat.mod_two_eq_zero_or_one k with g | g <;> rw [g] at v <;> omega
        have inf : (J (nf : Int)).toNatClampNeg = nf := by rw [jcl (by omega)]; omega
        have h302 : (sg_off σ 30) 0 2 = J nf := a4
        have add : f_X2_addFold (sg_off σ 30) (J k) = some (sg_st (sg_st (sg_off σ 30) 1 nf (J k)) 0 2 (J ((nf + 1 : Nat) : Int))) := by
          unfold f_X2_addFold
          rw [h302, if_neg (by rw [L6, jle (by omega) (by omega)]; omega), chk_J (by omega), inf, sgn (by omega), h302, L1, J_add]; rfl
        rw [add, Option.bind_some] at st8
        have u0 : ∀ q, ¬ (30 ≤ q ∧ q < 33) → (sg_sp σ 30 3 (sg_st (sg_st (sg_off σ 30) 1 nf (J k)) 0 2 (J ((nf + 1 : Nat) : Int)))) q = σ q := fun q hq => by funext i; rw [spn (by omega)]
        have u1 : (sg_sp σ 30 3 (sg_st (sg_st (sg_off σ 30) 1 nf (J k)) 0 2 (J ((nf + 1 : Nat) : Int)))) 30 1 = σ 30 1 := by rw [sps (by omega), sgs, if_neg (by omega), sgn (by omega)]; rfl
        have u2 : (sg_sp σ 30 3 (sg_st (sg_st (sg_off σ 30) 1 nf (J k)) 0 2 (J ((nf + 1 : Nat) : Int)))) 30 2 = J ((nf + 1 : Nat) : Int) := by rw [sps (by omega), sgs, if_pos rfl]
        have u3 : ∀ i, (sg_sp σ 30 3 (sg_st (sg_st (sg_off σ 30) 1 nf (J k)) 0 2 (J ((nf + 1 : Nat) : Int)))) 31 i = if i = nf then J k else σ 31 i := fun i => by rw [sps (by omega), sgn (by omega), sgs]; rfl
        have u4 : (sg_sp σ 30 3 (sg_st (sg_st (sg_off σ 30) 1 nf (J k)) 0 2 (J ((nf + 1 : Nat) : Int)))) 32 = σ 32 := by funext i; rw [sps (by omega), sgn (by omega), sgn (by omega)]; rfl
        generalize sg_sp σ 30 3 (sg_st (sg_st (sg_off σ 30) 1 nf (J k)) 0 2 (J ((nf + 1 : Nat) : Int))) = s1 at *
        obtain ⟨z, z0, z1, z2, z3, z4⟩ := bendBy_ok (tr := tr) w (b.2.1.cong (τ := sg_off s1 20) (fun q hq => by unfold sg_off; exact u0 _ (by omega))) (hc.cong (z := sg_off s1 26) (by unfold sg_off; exact u0 _ (by omega)) (by unfold sg_off; exact u0 _ (by omega)) (by unfold sg_off; exact u0 _ (by omega))) (V := Bt W H cd dn nf) (by rw [u0 29 (by omega)]; exact b.2.2) hk
        have w' := w.fd v
        rw [z0, Option.bind_some, thickest_eq w' z1, Option.bind_some] at st8
        have nfc : ∀ j, j < nf → (fun j => if j = nf then k else cd j) j = cd j := fun j hj => by dsimp only; rw [if_neg (by omega)]
        have cdn : (fun j => if j = nf then k else cd j) nf = k := by dsimp only; rw [if_pos rfl]
        have FSe : FS W H (fun j => if j = nf then k else cd j) (nf + 1) = stp (W * H) (FS W H cd nf) k := by
          show stp (W * H) (FS W H (fun j => if j = nf then k else cd j) nf) _ = _
          rw [FS_cong nfc, cdn]
        have Bte : Bt W H (fun j => if j = nf then k else cd j) dn (nf + 1) = Vb (Bt W H cd dn nf) (FS W H cd nf) k 1 := by
          show Vb (Bt W H (fun j => if j = nf then k else cd j) dn nf) (FS W H (fun j => if j = nf then k else cd j) nf) _ 1 = _
          rw [FS_cong nfc, Bt_cong nfc, cdn]
        have vc' : VC W H (fun j => if j = nf then k else cd j) (nf + 1) := by
          intro j hj
          by_cases g : j = nf
          · subst g; rw [cdn, FS_cong nfc]; exact ⟨hk, v⟩
          · rw [nfc j (by omega), FS_cong (fun i hi => nfc i (by omega))]; exact a2 j (by omega)
        have k9 : Ok (f_X9_fold μ tm (J ax) (J ln) (J pt) (J ov)) (fun y => y.1 = J (mxl ((stp (W * H) (FS W H cd nf) k).2 2) (W * H) + 1) ∧ (∀ q, q ≠ 4 → q ≠ 9 → q ≠ 10 → q ≠ 11 → q ≠ 12 → y.2 q = μ q) ∧ y.2 4 0 = μ 4 0 ∧ y.2 4 1 = J ((nf + 1 : Nat) : Int) ∧ (∀ j, j < nf + 1 → y.2 4 (2 + j) = J ((fun j => if j = nf then k else cd j) j : Nat)) ∧ RBp (Vb (Bt W H cd dn nf) (FS W H cd nf) k 1) W (W * H) 4 0 y.2) := by
          refine st9 _ (fun z z9 ztd zq => ⟨fun _ => ?_, fun nv => absurd v nv⟩)
          rw [Ok_bind]
          refine (ba z z9 ztd zq).mono (fun y hy => ?_)
          obtain ⟨b1, b2, b3, t, ht, tb, t1, t2⟩ := hy
          have y22 : y.2 2 2 = J te := by rw [b1 2 (by omega), zq 2 (by omega) (by omega) (by omega) (by omega)]; exact a.2.2.2.2.1.2.2.1
          have y41 : y.2 4 1 = J nf := by rw [b2 1 (by omega)]; exact a5
          have tle : t ≤ te := by
            rcases t2 with t2 | ⟨x, yy, g1, g2, g3⟩
            · omega
            · have := noT x yy g1 g2
              unfold Vb at g3
              rw [if_pos g2] at g3
              omega
          have i2 : (J (2 + (nf : Int))).toNatClampNeg = 2 + nf := by rw [jcl (by omega)]; omega
          have x1 : (sg_st y.2 4 (2 + nf) (J k)) 4 1 = J nf := by rw [sgs, if_neg (by omega)]; exact y41
          rw [L2, chk_J (by omega), y22, ht, if_pos ((jle (by omega) (by omega)).mpr tle), y41, L1, chk_J (by omega), J_add, chk_J (by omega), chk_J (by omega), chk_J (by omega), chk_J (by omega), i2, x1, J_add, sgs, if_pos rfl, show ((nf : Int) + 1) = ((nf + 1 : Nat) : Int) from rfl, Ok_bind]
          have htd : TD W H (sg_st (sg_st y.2 4 (2 + nf) (J k)) 4 1 (J ((nf + 1 : Nat) : Int))) := (ztd.cong (b1 2 (by omega))).cong (by funext i; rw [sgn (by omega), sgn (by omega)])
          have hcds : ∀ j, j < nf + 1 → (sg_st (sg_st y.2 4 (2 + nf) (J k)) 4 1 (J ((nf + 1 : Nat) : Int))) 4 (2 + j) = J ((fun j => if j = nf then k else cd j) j : Nat) := by
            intro j hj
            rw [sgs, if_neg (by omega), sgs]
            dsimp only
            by_cases g : j = nf
            · rw [if_pos (by omega), if_pos g]
            · rw [if_neg (by omega), if_neg g, b2 _ (by omega)]
              have := (a6 j (by omega)).2
              rw [Nat.zero_add] at this; exact this
          refine (now_ok (tr := tm) o1 o2 o3 o4 htd (m := nf + 1) (cd := fun j => if j = nf then k else cd j) (by omega) vc' hcds).mono (fun z21 hz21 => ?_)
          obtain ⟨z91, zq1⟩ := hz21
          rw [FSe] at z91
          have zz4 : z21 4 = _ := zq1 4 (by omega) (by omega) (by omega) (by omega)
          rw [thick_eq w' (htd.cong (zq1 2 (by omega) (by omega) (by omega) (by omega))) z91, Option.bind_some, Ok_some]
          refine ⟨rfl, fun q q1 q2 q3 q4 q5 => ?_, ?_, ?_, fun j hj => ?_, fun x way hx hw he => ?_⟩
          · dsimp only; rw [zq1 q q2 q3 q4 q5]; funext i; rw [sgn q1, sgn q1, b1 q q1, zq q q2 q3 q4 q5]
          · dsimp only; rw [zz4, sgs, if_neg (by omega), sgs, if_neg (by omega), b2 0 (by omega)]
          · dsimp only; rw [zz4, sgs, if_pos rfl]
          · dsimp only; rw [zz4]; exact hcds j hj
          · dsimp only; rw [zz4, sgs, if_neg (by omega), sgs, if_neg (by omega)]; exact b3 x way hx hw he
        obtain ⟨y, w0, w1, w2, w3, w4, w5, w6⟩ := k9
        refine ⟨_, y, st8, w0, w1.symm, e, T, len, W, H, te, wt, mq, qa, qb, it, tn, ms, sa, sb, m, ca, cb, nf + 1, fun j => if j = nf then k else cd j, dn, ?_, ?_, ?_, ?_⟩
        · exact a.c8 (fun q hq => by dsimp only; rw [z4 q (by omega) (by omega), u0 q (by omega)]) (fun q q1 q2 => by dsimp only; rw [z4 q (by omega) (by omega), u0 q (by omega)]) z2 (w2 0 (by omega) (by omega) (by omega) (by omega) (by omega)) (fun q hq => w2 q (by omega) (by omega) (by omega) (by omega) (by omega))
        · refine ⟨⟨by omega, vc', ?_, ?_, w4, fun j hj => ⟨?_, ?_⟩, fun i hi => ?_, ?_, fun x yy hxy => ?_⟩, ?_, ?_⟩
          · dsimp only; rw [z4 30 (by omega) (by omega), u1, w3]; exact a3
          · dsimp only; rw [z4 30 (by omega) (by omega), u2]
          · dsimp only; rw [z4 31 (by omega) (by omega), u3]
            by_cases g : j = nf
            · rw [if_pos g, if_pos g]
            · rw [if_neg g, if_neg g]; exact (a6 j (by omega)).1
          · rw [Nat.zero_add]; exact w5 j hj
          · dsimp only; rw [z4 32 (by omega) (by omega), u4]; exact a7 i hi
          · rw [Bte]; exact w6
          · rw [Bte]
            have g := a9 x yy hxy
            refine ⟨g.1, ?_⟩
            unfold Vb
            by_cases g2 : PT (FS W H cd nf) x yy k = true
            · have := noT x yy hxy g2
              rw [if_pos g2]; omega
            · rw [if_neg g2]; omega
          · rw [FSe]; exact z1
          · rw [Bte]; exact z3
        · exact c.cg (by omega) (fun q q1 q2 => by dsimp only; rw [z4 q (by omega) (by omega), u0 q (by omega)]) (w2 5 (by omega) (by omega) (by omega) (by omega) (by omega)) (w2 6 (by omega) (by omega) (by omega) (by omega) (by omega)) hn
        · exact d.cg (by omega) (fun q q1 q2 => by dsimp only; rw [z4 q (by omega) (by omega), u0 q (by omega)]) (w2 5 (by omega) (by omega) (by omega) (by omega) (by omega)) (w2 6 (by omega) (by omega) (by omega) (by omega) (by omega)) hn
      · -- a crease would tear
        rw [e1, if_neg (by decide +kernel)] at st8
        have k9 : Ok (f_X9_fold μ tm (J ax) (J ln) (J pt) (J ov)) (fun y => y.1 = -2 ∧ (∀ q, q ≠ 4 → q ≠ 9 → q ≠ 10 → q ≠ 11 → q ≠ 12 → y.2 q = μ q) ∧ (∀ i, i < 8 → y.2 4 i = μ 4 i) ∧ RBp (Bt W H cd dn nf) W (W * H) 4 0 y.2) := by
          refine st9 _ (fun z z9 ztd zq => ⟨fun _ => ?_, fun nv => absurd v nv⟩)
          rw [Ok_bind]
          refine (ba z z9 ztd zq).mono (fun y hy => ?_)
          obtain ⟨b1, b2, b3, t, ht, tb, t1, t2⟩ := hy
          have y22 : y.2 2 2 = J te := by rw [b1 2 (by omega), zq 2 (by omega) (by omega) (by omega) (by omega)]; exact a.2.2.2.2.1.2.2.1
          have tgt : ¬ t ≤ te := by
            have g := t1 x0 y0 hcr hp
            unfold Vb at g
            rw [if_pos hp] at g
            omega
          rw [L2, chk_J (by omega), y22, ht, if_neg (fun g => tgt ((jle (by omega) (by omega)).mp g)), L1, J_neg, Ok_bind]
          refine (bendsAll_ok (tr := tm) o1 o2 hn w (ztd.cong (b1 2 (by omega))) (z9.cong hn (fun i _ => by rw [b1 9 (by omega)]) (fun i _ => by rw [b1 10 (by omega)])) b3 vbV hk (by_ := -1) (Or.inr rfl)).mono (fun y2 hy2 => ?_)
          obtain ⟨c1, c2, c3, -⟩ := hy2
          rw [Ok_some]
          refine ⟨by dsimp only, fun q q1 q2 q3 q4 q5 => by dsimp only; rw [c1 q q1, b1 q q1, zq q q2 q3 q4 q5], fun i hi => by dsimp only; rw [c2 i hi, b2 i hi], fun x way hx hw he => ?_⟩
          have g := c3 x way hx hw he
          have eq : Vb (Vb (Bt W H cd dn nf) (FS W H cd nf) k 1) (FS W H cd nf) k (-1) x (pb W x way) = Bt W H cd dn nf x (pb W x way) := by
            unfold Vb; split <;> omega
          rw [eq] at g
          exact g
        obtain ⟨y, w0, w1, w2, w3, w4⟩ := k9
        refine ⟨_, y, st8, w0, w1.symm, e, T, len, W, H, te, wt, mq, qa, qb, it, tn, ms, sa, sb, m, ca, cb, nf, cd, dn, ?_, ⟨⟨a1, a2, ?_, a4, ?_, fun j hj => ⟨(a6 j hj).1, ?_⟩, a7, w4, a9⟩, b.2.1, b.2.2⟩, ?_, ?_⟩
        · exact a.c8 (fun q hq => rfl) (fun q q1 q2 => rfl) hc (w2 0 (by omega) (by omega) (by omega) (by omega) (by omega)) (fun q hq => w2 q (by omega) (by omega) (by omega) (by omega) (by omega))
        · rw [w3 0 (by omega)]; exact a3
        · rw [w3 (0 + 1) (by omega)]; exact a5
        · rw [w3 (0 + 2 + j) (by omega)]; exact (a6 j hj).2
        · exact c.cg (by omega) (fun q q1 q2 => rfl) (w2 5 (by omega) (by omega) (by omega) (by omega) (by omega)) (w2 6 (by omega) (by omega) (by omega) (by omega) (by omega)) hn
        · exact d.cg (by omega) (fun q q1 q2 => rfl) (w2 5 (by omega) (by omega) (by omega) (by omega) (by omega)) (w2 6 (by omega) (by omega) (by omega) (by omega) (by omega)) hn
    · rw [if_neg v] at st8
      obtain ⟨y, w0, w1, w2⟩ := st9 (fun y => y.1 = -2 ∧ Ev9 μ y.2) (fun z z9 ztd zq => ⟨fun v' => absurd v' v, fun _ => ⟨rfl, Ev9.of zq⟩⟩)
      exact ⟨_, y, st8, w0, w1.symm, h'.cong (Ev8.refl σ) w2⟩
  · refine ⟨(-1, σ), (-1, μ), ?_, ?_, rfl, h'⟩
    · unfold f_X8_fold
      rw [isBit_eq hax, isBit_eq hpt, isBit_eq hov, Option.bind_some]
      by_cases q1 : 0 ≤ ax ∧ ax ≤ 1
      · rw [if_pos q1, if_neg (by decide +kernel), Option.bind_some]
        by_cases q2 : 0 ≤ pt ∧ pt ≤ 1
        · rw [if_pos q2, if_neg (by decide +kernel), Option.bind_some]
          by_cases q3 : 0 ≤ ov ∧ ov ≤ 1
          · rw [if_pos q3, if_neg (by decide +kernel)]
            by_cases q4 : ln < 1
            · rw [if_pos (cl1.mpr q4)]
            · rw [if_neg (fun g => q4 (cl1.mp g)), if_neg (fun g => by have := cl4.mp g; exact q ⟨q1, by omega, q2, q3⟩)]
          · rw [if_neg q3, if_pos (by decide +kernel)]
        · rw [if_neg q2, if_pos (by decide +kernel)]
      · rw [if_neg q1, if_pos (by decide +kernel)]
    · unfold f_X9_fold
      rw [in1 ax hax, in3, in1 pt hpt, in1 ov hov, Option.bind_some]
      by_cases q1 : 0 ≤ ax ∧ ax ≤ 1
      · rw [if_pos q1, if_neg (by decide +kernel), Option.bind_some]
        by_cases q2 : 1 ≤ ln ∧ ln ≤ 3
        · rw [if_pos q2, if_neg (by decide +kernel), Option.bind_some]
          by_cases q3 : 0 ≤ pt ∧ pt ≤ 1
          · rw [if_pos q3, if_neg (by decide +kernel), Option.bind_some]
            rw [if_neg (show ¬ (0 ≤ ov ∧ ov ≤ 1) from fun g => q ⟨q1, q2, q3, g⟩), if_pos (by decide +kernel)]
          · rw [if_neg q3, if_pos (by decide +kernel)]
        · rw [if_neg q2, if_pos (by decide +kernel)]
      · rw [if_neg q1, if_pos (by decide +kernel)]
