/-! ===== the steps: what changes nothing, the text, what was seen ===== -/
theorem RN.cg {W H m : Nat} {ca cb : Nat → Nat} {σ μ σ' μ' : Sg} {nf : Nat} {cd : Nat → Nat} {dn : Nat → Nat → Int} (h : RN W H m ca cb σ μ nf cd dn) (e : ∀ q, 20 ≤ q → q < 33 → σ' q = σ q) (f : μ' 4 = μ 4) (hn : W * H ≤ 16) : RN W H m ca cb σ' μ' nf cd dn :=
  ⟨h.1.cong (by rw [e 30 (by omega) (by omega)]) (by rw [e 30 (by omega) (by omega)]) (e _ (by omega) (by omega)) (e _ (by omega) (by omega)) (fun i _ => by rw [f]) hn, h.2.1.cong (fun q hq => by unfold sg_off; exact e _ (by omega) (by omega)), by rw [e 29 (by omega) (by omega)]; exact h.2.2⟩
theorem RI.cg {W H m : Nat} {ca cb : Nat → Nat} {b o im : Nat} {σ μ σ' μ' : Sg} (h : RI W H m ca cb b o im σ μ) (hb : 34 ≤ b ∧ b + 2 < 40) (e : ∀ q, 34 ≤ q → q < 40 → σ' q = σ q) (f5 : μ' 5 = μ 5) (f6 : μ' 6 = μ 6) (hn : W * H ≤ 16) : RI W H m ca cb b o im σ' μ' := by
  unfold RI
  rw [e b (by omega) (by omega), f6]
  rcases h with h | ⟨h1, h2, nf, cd, dn, h3⟩
  · exact Or.inl h
  · exact Or.inr ⟨h1, h2, nf, cd, dn, h3.cong (by rw [e b (by omega) (by omega)]) (by rw [e b (by omega) (by omega)]) (e _ (by omega) (by omega)) (e _ (by omega) (by omega)) (fun i _ => by rw [f5]) hn⟩
section
variable {T : Nat → Int} {len W H : Nat} {te : Int} {wt : Nat → Int} {mq : Nat} {qa qb : Nat → Nat} {it tn ms : Nat} {sa sb : Nat → Nat} {m : Nat} {ca cb : Nat → Nat} {σ μ σ' μ' : Sg}
theorem RS.text (h : RS T len W H te wt mq qa qb it tn ms sa sb m ca cb σ μ) {T' : Nat → Int} {len' : Nat} (h1 : HT7 T' len' (sg_off σ' 2)) (h2 : H9T T' len' μ') (e : ∀ q, 9 ≤ q → q < 43 → σ' q = σ q) (f0 : μ' 0 10 = μ 0 10) (f : ∀ q, 2 ≤ q → q ≤ 8 → q ≠ 3 → μ' q = μ q) : RS T' len' W H te wt mq qa qb it tn ms sa sb m ca cb σ' μ' := by
  obtain ⟨a1, a2, a3, a4, a5, a6, a7, a8⟩ := h
  refine ⟨h1, h2, a3, ?_, by rw [f 2 (by omega) (by omega) (by omega)]; exact a5, ?_, a7.cong (fun q hq => by unfold sg_off; exact e _ (by omega) (by omega)), a8.cong (by unfold sg_off; exact e _ (by omega) (by omega)) (by unfold sg_off; exact e _ (by omega) (by omega)) (by unfold sg_off; exact e _ (by omega) (by omega))⟩
  · rw [e 9 (by omega) (by omega), e 10 (by omega) (by omega)]
    refine ⟨a4.1, a4.2.1, a4.2.2.1, a4.2.2.2.1, ?_⟩
    have := a4.2.2.2.2
    unfold HQ sg_off at *
    rw [e (11 + 0) (by omega) (by omega), e (11 + 1) (by omega) (by omega), e (11 + 2) (by omega) (by omega)]
    exact this
  · refine ⟨a6.1, ?_, by rw [f0]; exact a6.2.2.1, fun i hi => by rw [f 7 (by omega) (by omega) (by omega), f 8 (by omega) (by omega) (by omega)]; exact a6.2.2.2 i hi⟩
    have := a6.2.1
    unfold HQ sg_off at *
    rw [e (40 + 0) (by omega) (by omega), e (40 + 1) (by omega) (by omega), e (40 + 2) (by omega) (by omega)]
    exact this
theorem RS.seen (h : RS T len W H te wt mq qa qb it tn ms sa sb m ca cb σ μ) {ms' : Nat} {sa' sb' : Nat → Nat} (hm : ms' ≤ 6) (h1 : HQ ms' sa' sb' (sg_off σ' 40)) (h2 : μ' 0 10 = J ms') (h3 : ∀ i, i < ms' → μ' 7 i = J (sa' i) ∧ μ' 8 i = J (sb' i) ∧ sa' i < W * H ∧ sb' i < W * H) (e : ∀ q, q < 40 → σ' q = σ q) (f0 : μ' 0 2 = μ 0 2) (f1 : μ' 1 = μ 1) (f2 : μ' 2 = μ 2) : RS T len W H te wt mq qa qb it tn ms' sa' sb' m ca cb σ' μ' := by
  obtain ⟨a1, a2, a3, a4, a5, a6, a7, a8⟩ := h
  refine ⟨⟨a1.1, by show σ' 2 0 = _; rw [e 2 (by omega)]; exact a1.2.1, fun j hj => by show σ' 3 j = _ ∧ _; rw [e 3 (by omega)]; exact a1.2.2 j hj⟩, ⟨a2.1, by rw [f0]; exact a2.2.1, fun j hj => by rw [f1]; exact a2.2.2 j hj⟩, a3, ?_, by rw [f2]; exact a5, ⟨hm, h1, h2, h3⟩, a7.cong (fun q hq => by unfold sg_off; exact e _ (by omega)), a8.cong (by unfold sg_off; exact e _ (by omega)) (by unfold sg_off; exact e _ (by omega)) (by unfold sg_off; exact e _ (by omega))⟩
  rw [e 9 (by omega), e 10 (by omega)]
  refine ⟨a4.1, a4.2.1, a4.2.2.1, a4.2.2.2.1, ?_⟩
  have := a4.2.2.2.2
  unfold HQ sg_off at *
  rw [e (11 + 0) (by omega), e (11 + 1) (by omega), e (11 + 2) (by omega)]
  exact this
end
theorem st_clear : LS_clear Rel := by
  intro σ tr μ tm h
  obtain ⟨e, T, len, W, H, te, wt, mq, qa, qb, it, tn, ms, sa, sb, m, ca, cb, nf, cd, dn, a, b, c, d⟩ := h
  have hn := a.n16
  refine ⟨_, _, rfl, rfl, ?_, e, T, 0, W, H, te, wt, mq, qa, qb, it, tn, ms, sa, sb, m, ca, cb, nf, cd, dn, ?_, ?_, ?_, ?_⟩
  · exact a.1.2.1.trans a.2.1.2.1.symm
  · refine a.text ⟨by omega, ?_, fun j hj => by omega⟩ ⟨by omega, ?_, fun j hj => by omega⟩ (fun q q1 q2 => by funext i; dsimp only; rw [sgn (by omega)]) (by dsimp only; rw [sgs, if_neg (by omega)]) (fun q q1 q2 q3 => by funext i; dsimp only; rw [sgn (by omega)])
    · dsimp only; rw [sof, sgs, if_pos rfl, L0]; rfl
    · dsimp only; rw [sgs, if_pos rfl, L0]; rfl
  · exact b.cg (fun q q1 q2 => by funext i; dsimp only; rw [sgn (by omega)]) (by funext i; dsimp only; rw [sgn (by omega)]) hn
  · exact c.cg (by omega) (fun q q1 q2 => by funext i; dsimp only; rw [sgn (by omega)]) (by funext i; dsimp only; rw [sgn (by omega)]) (by funext i; dsimp only; rw [sgn (by omega)]) hn
  · exact d.cg (by omega) (fun q q1 q2 => by funext i; dsimp only; rw [sgn (by omega)]) (by funext i; dsimp only; rw [sgn (by omega)]) (by funext i; dsimp only; rw [sgn (by omega)]) hn
theorem st_forget : LS_forget Rel := by
  intro σ tr μ tm h
  obtain ⟨e, T, len, W, H, te, wt, mq, qa, qb, it, tn, ms, sa, sb, m, ca, cb, nf, cd, dn, a, b, c, d⟩ := h
  have hn := a.n16
  refine ⟨_, _, rfl, rfl, ?_, e, T, len, W, H, te, wt, mq, qa, qb, it, tn, 0, sa, sb, m, ca, cb, nf, cd, dn, ?_, ?_, ?_, ?_⟩
  · exact a.2.2.2.2.2.1.2.1.1.trans a.2.2.2.2.2.1.2.2.1.symm
  · refine a.seen (by omega) ⟨?_, fun i hi => by omega⟩ ?_ (fun i hi => by omega) (fun q hq => by funext i; dsimp only; rw [sgn (by omega)]) (by dsimp only; rw [sgs, if_neg (by omega)]) (by funext i; dsimp only; rw [sgn (by omega)]) (by funext i; dsimp only; rw [sgn (by omega)])
    · dsimp only; rw [sof, sgs, if_pos rfl, L0]; rfl
    · dsimp only; rw [sgs, if_pos rfl, L0]; rfl
  · exact b.cg (fun q q1 q2 => by funext i; dsimp only; rw [sgn (by omega)]) (by funext i; dsimp only; rw [sgn (by omega)]) hn
  · exact c.cg (by omega) (fun q q1 q2 => by funext i; dsimp only; rw [sgn (by omega)]) (by funext i; dsimp only; rw [sgn (by omega)]) (by funext i; dsimp only; rw [sgn (by omega)]) hn
  · exact d.cg (by omega) (fun q q1 q2 => by funext i; dsimp only; rw [sgn (by omega)]) (by funext i; dsimp only; rw [sgn (by omega)]) (by funext i; dsimp only; rw [sgn (by omega)]) hn
theorem st_trace : LS_trace Rel := fun σ tr μ tm h => ⟨tr, tm, rfl, rfl, h.1, h⟩
theorem st_count : LS_count Rel := by
  intro σ tr μ tm h p1
  have h' := h
  obtain ⟨e, T, len, W, H, te, wt, mq, qa, qb, it, tn, ms, sa, sb, m, ca, cb, nf, cd, dn, a, b, c, d⟩ := h
  obtain ⟨v, rfl, hv⟩ := j_of p1
  obtain ⟨y0, y1, y2, y3, y4, y5⟩ := z35
  have t7 : σ 2 0 = J len := a.1.2.1
  have u7 := a.2.1.2.1
  obtain ⟨d0, d1, d2, d3, d4⟩ := a.2.2.2.1
  have d4 : σ 11 0 = J mq := d4.1
  obtain ⟨r0, r1, r2, r3, -⟩ := a.2.2.2.2.1
  have s4 : σ 40 0 = J ms := a.2.2.2.2.2.1.2.1.1
  have s5 := a.2.2.2.2.2.1.2.2.1
  have n5 := b.1.2.2.1
  have n6 := b.1.2.2.2.1
  have n7 := b.1.2.2.2.2.1
  have i9 : f_X9_in (J v) 0 7 = some (J (if 0 ≤ v ∧ v ≤ 7 then 1 else 0)) := by rw [L0, L7]; exact in_eq hv (by omega) (by omega)
  have n7 : μ 4 1 = J nf := n7
  have k8 : f_X8_count σ tr (J v) = some (if v = 0 then J W else if v = 1 then J H else if v = 2 then J mq else if v = 3 then J te else if v = 4 then J ms else if v = 5 then μ 4 0 else if v = 6 then J nf else if v = 7 then J len else J (-1)) := by
    unfold f_X8_count
    rw [t7, d0, d1, d2, d4, s4, n6, n5]
    simp (disch := omega) only [L0, L1, L2, L3, L4, L5, L6, L7, J_neg, jeq]
    (repeat' split) <;> first | rfl | (exfalso; omega)
  have k9 : f_X9_count μ tm (J v) = some (if v = 0 then J W else if v = 1 then J H else if v = 2 then J mq else if v = 3 then J te else if v = 4 then J ms else if v = 5 then μ 4 0 else if v = 6 then J nf else if v = 7 then J len else J (-1)) := by
    unfold f_X9_count j_X9_count_1
    rw [i9, Option.bind_some]
    by_cases q : 0 ≤ v ∧ v ≤ 7
    · rw [if_pos q, if_neg (by decide +kernel)]
      simp (disch := omega) only [L0, L1, L2, L3, L4, L5, L6, L7, J_neg, chk_J, y0, y1, y2, y3, r0, r1, r2, r3, n7, s5, u7, jeq, jle]
      (repeat' split) <;> first | rfl | (exfalso; omega)
    · rw [if_neg q, if_pos (by decide +kernel)]
      rw [if_neg (by omega), if_neg (by omega), if_neg (by omega), if_neg (by omega), if_neg (by omega), if_neg (by omega), if_neg (by omega), if_neg (by omega), L1, J_neg]
  exact ⟨_, _, k8, k9, rfl, h'⟩
theorem ok_now {R S : Type} {i : Int32} {n : Nat} {x : Option S} {k : S → Option R} {Q : S → Prop} {P : R → Prop} (h : Ok (chk i n x) Q) (h2 : ∀ z, Q z → Ok (k z) P) : Ok (chk i n (x.bind k)) P := by
  rw [Ok_chk] at *
  refine ⟨h.1, ?_⟩
  rw [Ok_bind]
  exact h.2.mono h2
theorem st_touch : LS_touch Rel := by
  intro σ tr μ tm h p1 p2
  have h' := h
  obtain ⟨e, T, len, W, H, te, wt, mq, qa, qb, it, tn, ms, sa, sb, m, ca, cb, nf, cd, dn, a, b, c, d⟩ := h
  obtain ⟨x, rfl, hx⟩ := j_of p1
  obtain ⟨y, rfl, hy⟩ := j_of p2
  have hn := a.n16
  obtain ⟨w, hnow⟩ := now9 (tr := tm) a b
  by_cases q : (0 ≤ x ∧ x < ((W * H : Nat) : Int)) ∧ (0 ≤ y ∧ y < ((W * H : Nat) : Int)) ∧ ¬ x = y
  · obtain ⟨cx, rfl⟩ := Int.eq_ofNat_of_zero_le q.1.1
    obtain ⟨cy, rfl⟩ := Int.eq_ofNat_of_zero_le q.2.1.1
    have hcx : cx < W * H := by omega
    have hcy : cy < W * H := by omega
    have k9 : Ok (f_X9_touch μ tm (J cx) (J cy)) (fun z => z.1 = J (tcP (FS W H cd nf).2 cx cy) ∧ Ev9 μ z.2) := by
      unfold f_X9_touch
      rw [areTwo9_eq a.td hn hx hy, if_pos q, Option.bind_some, if_neg (by decide +kernel)]
      refine ok_now hnow (fun z hz => ?_)
      rw [show (0 : Int32) = J ((0 : Nat) : Int) from by decide +kernel, touches_eq w (by omega) hz.1 hcx hcy, Option.bind_some, Ok_some]
      exact ⟨rfl, Ev9.of hz.2.2⟩
    obtain ⟨z, z1, z2, z3⟩ := k9
    refine ⟨J (tcP (FS W H cd nf).2 cx cy), z, ?_, z1, z2.symm, h'.cong (Ev8.refl σ) z3⟩
    unfold f_X8_touch
    rw [areTwo8_eq b.2.1 hn hx hy, if_pos q, Option.bind_some, if_neg (by decide +kernel), touching_eq w b.2.1 hcx hcy, Option.bind_some]
  · refine ⟨-1, (-1, μ), ?_, ?_, rfl, h'⟩
    · unfold f_X8_touch
      rw [areTwo8_eq b.2.1 hn hx hy, if_neg q, Option.bind_some, if_pos (by decide +kernel)]
    · unfold f_X9_touch
      rw [areTwo9_eq a.td hn hx hy, if_neg q, Option.bind_some, if_pos (by decide +kernel)]
theorem st_saw : LS_saw Rel := by
  intro σ tr μ tm h p1 p2
  have h' := h
  obtain ⟨e, T, len, W, H, te, wt, mq, qa, qb, it, tn, ms, sa, sb, m, ca, cb, nf, cd, dn, a, b, c, d⟩ := h
  obtain ⟨x, rfl, hx⟩ := j_of p1
  obtain ⟨y, rfl, hy⟩ := j_of p2
  have hn := a.n16
  obtain ⟨s1, s2, s3, s4⟩ := a.2.2.2.2.2.1
  by_cases q : (0 ≤ x ∧ x < ((W * H : Nat) : Int)) ∧ (0 ≤ y ∧ y < ((W * H : Nat) : Int)) ∧ ¬ x = y
  · obtain ⟨cx, rfl⟩ := Int.eq_ofNat_of_zero_le q.1.1
    obtain ⟨cy, rfl⟩ := Int.eq_ofNat_of_zero_le q.2.1.1
    have hcx : cx < W * H := by omega
    have hcy : cy < W * H := by omega
    by_cases f6 : ms < 6
    · have im : (J (ms : Int)).toNatClampNeg = ms := by rw [jcl (by omega)]; omega
      have h00 : (sg_off σ 40) 0 0 = J ms := s2.1
      have hadd : f_X4_add (sg_off σ 40) (J cx) (J cy) = some (sg_st (sg_st (sg_st (sg_off σ 40) 1 ms (J cx)) 2 ms (J cy)) 0 0 (J ((ms + 1 : Nat) : Int))) := by
        unfold f_X4_add
        rw [full_eq h00 (by omega), Option.bind_some, if_pos f6, if_pos (by decide +kernel)]
        simp (disch := omega) only [sgn, h00, chk_J, im, L1, J_add]
        rfl
      refine ⟨(J ((ms + 1 : Nat) : Int), sg_sp σ 40 3 (sg_st (sg_st (sg_st (sg_off σ 40) 1 ms (J cx)) 2 ms (J cy)) 0 0 (J ((ms + 1 : Nat) : Int)))), (J ((ms + 1 : Nat) : Int), sg_st (sg_st (sg_st μ 7 ms (J cx)) 8 ms (J cy)) 0 10 (J ((ms + 1 : Nat) : Int))), ?_, ?_, ?_, e, T, len, W, H, te, wt, mq, qa, qb, it, tn, ms + 1, fun i => if i = ms then cx else sa i, fun i => if i = ms then cy else sb i, m, ca, cb, nf, cd, dn, ?_, ?_, ?_, ?_⟩
      · unfold f_X8_saw
        rw [areTwo8_eq b.2.1 hn hx hy, if_pos q, Option.bind_some, if_neg (by decide +kernel), full_eq h00 (by omega), Option.bind_some, if_pos f6, if_pos (by decide +kernel), hadd, Option.bind_some, sps (by omega)]
        rw [show 40 - 40 = 0 from rfl, sgs, if_pos rfl]
      · unfold f_X9_saw
        rw [areTwo9_eq a.td hn hx hy, if_pos q, Option.bind_some, if_neg (by decide +kernel), s3, if_neg (by rw [L6, jeq (by omega) (by omega)]; omega)]
        simp (disch := omega) only [sgn, s3, chk_J, im, L1, J_add]
        rw [sgs, if_pos rfl]
        rfl
      · rfl
      · refine a.seen (by omega) ⟨?_, fun i hi => ?_⟩ ?_ (fun i hi => ?_) (fun q hq => by funext i; dsimp only; rw [spn (by omega)]) (by dsimp only; rw [sgs, if_neg (by omega), sgn (by omega), sgn (by omega)]) (by funext i; dsimp only; rw [sgn (by omega), sgn (by omega), sgn (by omega)]) (by funext i; dsimp only; rw [sgn (by omega), sgn (by omega), sgn (by omega)])
        · dsimp only; rw [sof, sps (by omega), sgs, if_pos rfl]
        · dsimp only
          refine ⟨?_, ?_⟩
          · rw [sof, sps (by omega), sgn (by omega), sgn (by omega), sgs]
            by_cases e' : i = ms
            · rw [if_pos e', if_pos e']
            · rw [if_neg e', if_neg e']; exact (s2.2 i (by omega)).1
          · rw [sof, sps (by omega), sgn (by omega), sgs]
            by_cases e' : i = ms
            · rw [if_pos e', if_pos e']
            · rw [if_neg e', if_neg e', sgn (by omega)]; exact (s2.2 i (by omega)).2
        · dsimp only; rw [sgs, if_pos rfl]
        · dsimp only
          rw [sgn (by omega), sgn (by omega), sgs, sgn (by omega), sgs]
          by_cases e' : i = ms
          · rw [if_pos e', if_pos e', if_pos e', if_pos e']; exact ⟨rfl, rfl, hcx, hcy⟩
          · rw [if_neg e', if_neg e', if_neg e', if_neg e', sgn (by omega)]; exact s4 i (by omega)
      · exact b.cg (fun q q1 q2 => by funext i; dsimp only; rw [spn (by omega)]) (by funext i; dsimp only; rw [sgn (by omega), sgn (by omega), sgn (by omega)]) hn
      · exact c.cg (by omega) (fun q q1 q2 => by funext i; dsimp only; rw [spn (by omega)]) (by funext i; dsimp only; rw [sgn (by omega), sgn (by omega), sgn (by omega)]) (by funext i; dsimp only; rw [sgn (by omega), sgn (by omega), sgn (by omega)]) hn
      · exact d.cg (by omega) (fun q q1 q2 => by funext i; dsimp only; rw [spn (by omega)]) (by funext i; dsimp only; rw [sgn (by omega), sgn (by omega), sgn (by omega)]) (by funext i; dsimp only; rw [sgn (by omega), sgn (by omega), sgn (by omega)]) hn
    · have h00 : (sg_off σ 40) 0 0 = J ms := s2.1
      refine ⟨(-3, σ), (-3, μ), ?_, ?_, rfl, h'⟩
      · unfold f_X8_saw
        rw [areTwo8_eq b.2.1 hn hx hy, if_pos q, Option.bind_some, if_neg (by decide +kernel), full_eq h00 (by omega), Option.bind_some, if_neg f6, if_neg (by decide +kernel)]
      · unfold f_X9_saw
        rw [areTwo9_eq a.td hn hx hy, if_pos q, Option.bind_some, if_neg (by decide +kernel), s3, if_pos (by rw [L6, jeq (by omega) (by omega)]; omega)]
  · refine ⟨(-1, σ), (-1, μ), ?_, ?_, rfl, h'⟩
    · unfold f_X8_saw
      rw [areTwo8_eq b.2.1 hn hx hy, if_neg q, Option.bind_some, if_pos (by decide +kernel)]
    · unfold f_X9_saw
      rw [areTwo9_eq a.td hn hx hy, if_neg q, Option.bind_some, if_pos (by decide +kernel)]
