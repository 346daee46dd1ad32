def Pc3 (one two inn : Nat) : Nat → Nat → Nat → Prop := fun m k1 k2 => m = 0 ∨ (m = 1 ∧ (k1 < one ∨ (k1 = one ∧ inn = 1))) ∨ (m = 2 ∧ (k1 < one ∨ (k1 = one ∧ k2 < two)))
theorem serves_loop {W H : Nat} {S : St} {g : Sg} {tr : Int64} (hn : W * H ≤ 16) (w : WF (W * H) S) (ht : TD W H g) (h9 : H9 (W * H) S 0 g) {wt : Nat → Int} (hw : ∀ i, i < 16 → g 2 (6 + i) = J (wt i) ∧ 0 ≤ wt i ∧ wt i ≤ 9) {c : Nat} (hc : c < W * H) (h19 : g 0 19 = J (-1)) {e13 : Sg → Option (Int32 × Sg)} {P : Int32 × Sg → Prop}
    (he : ∀ g' gb mb row, FQ 0 g g' → VS (W * H) (fun P => gn wt P c (W * H)) a24 S gb mb row → g' 0 19 = J gb → g' 0 20 = J mb → g' 0 21 = J (encL row) → row.length = mb → mb ≤ 2 → (∀ k ∈ row, k < 24) → Ok (e13 g') P) :
    Ok ((f_X9_tries g tr (J 0) (J c) (J 0)).bind fun z6 => lc2 (s_X9_serves_39 tr (J c) e13) 1000 (J 0) z6) P := by
  have gv : ∀ P, 0 ≤ gn wt P c (W * H) ∧ gn wt P c (W * H) ≤ 144 := fun P => by
    have := gn_bd (wt := wt) (P := P) (c := c) (k := W * H) (fun i hi => (hw i (by omega)).2)
    omega
  have gvS := gv S.2
  -- the first try
  have first : Ok (f_X9_tries g tr (J 0) (J c) (J 0)) (fun z => FQ 2 g z ∧ DB (W * H) S (fun P => gn wt P c (W * H)) (Pc3 0 0 0) z) := by
    unfold f_X9_tries
    have ge := gain_eq (tr := tr) (L := 0) w ht (by omega) h9 (fun i hi => (hw i hi).1) hc
    rw [show J ((0 : Nat) : Int) = J 0 from rfl] at ge
    rw [ge, Option.bind_some, h19, if_pos (by rw [jlt (by omega) (by omega)]; omega)]
    unfold j_X9_tries_1
    rw [Ok_some]
    refine ⟨⟨fun q q0 _ _ _ _ => by funext i; rw [sgn q0, sgn q0, sgn q0], fun i b1 b2 b3 => by rw [sgs, if_neg b3, sgs, if_neg b2, sgs, if_neg b1], fun i _ => by rw [sgn (by omega), sgn (by omega), sgn (by omega)], fun i _ => by rw [sgn (by omega), sgn (by omega), sgn (by omega)]⟩, gn wt S.2 c (W * H), 0, 0, 0, S, ?_, ?_, ?_, gvS, by omega, by omega, by omega, rfl, rfl, fun m k1 k2 hm h1 h2 hp S' hS => ?_, fun k1 k2 _ _ hb => ?_⟩
    · rw [sgs, if_neg (by omega), sgs, if_neg (by omega), sgs, if_pos rfl]
    · rw [sgs, if_neg (by omega), sgs, if_pos rfl]; rfl
    · rw [sgs, if_pos rfl]; rfl
    · unfold Pc3 at hp
      have e : m = 0 := by omega
      subst e
      rw [← Option.some.inj hS]
      exact Or.inr ⟨rfl, Nat.le_refl _⟩
    · unfold bef at hb; omega
  rw [Ok_bind]
  refine first.mono (fun z6 hz6 => ?_)
  obtain ⟨f1, f2⟩ := hz6
  rw [show J 0 = J ((0 : Nat) : Int) from rfl]
  refine Ok_for2 24 (fun one g' => FQ 0 g g' ∧ DB (W * H) S (fun P => gn wt P c (W * H)) (Pc3 one 0 0) g') (fun one g' κ h1 hi hκ => ?_) (fun g' κ hi => ?_) 1000 0 _ (by omega) (by omega) ⟨f1.down (by omega), f2⟩
  · obtain ⟨i1, i2⟩ := hi
    unfold s_X9_serves_39
    rw [if_neg (by rw [L24, jle (by omega) (by omega)]; omega), Ok_bind, show (0 : Int32) = J ((0 : Nat) : Int) from by decide +kernel]
    refine (folds_ok hn w (i1.td ht) (by omega) (i1.h9 (Nat.le_refl 0) hn h9) h1).mono (fun z hz => ?_)
    obtain ⟨r, hz⟩ := hz
    have c0 : z.2 0 = g' 0 := r.1 0 (by omega) (by omega) (by omega) (by omega)
    rcases hz with ⟨v, z1, z2⟩ | ⟨v, z1, z2⟩
    · rw [if_neg (by rw [z1, jeq (by omega) (by omega)]; omega), Ok_bind]
      have fz : FQ 0 g z.2 := i1.trans r.fq
      have t1 := tries_ok (S := S) (tr := tr) hn (m := 1) (k1 := one) (k2 := 0) (by omega) h1 (by omega) (w.fd v) (by rw [P3_1, if_pos v]) (fz.td ht) z2 (fun i hi => by rw [fz.1 2 (by omega) (by omega) (by omega) (by omega) (by omega)]; exact hw i hi) hc (i2.cong c0 (fun m k1 k2 _ _ _ hp => Or.inl hp)) (fun j1 j2 _ _ hb => by unfold bef at hb; unfold Pc3; omega)
      rw [show encL (rowL 1 one 0) = (one : Int) from by show 32 * 0 + (one : Int) = _; omega] at t1
      rw [show (1 : Int32) = J ((1 : Nat) : Int) from by decide +kernel]
      refine t1.mono (fun z17 hz17 => ?_)
      obtain ⟨t2, t3, t4⟩ := hz17
      refine Ok_for2 24 (fun two g'' => FQ 0 g g'' ∧ H9 (W * H) (stp (W * H) S one) 1 g'' ∧ DB (W * H) S (fun P => gn wt P c (W * H)) (Pc3 one two 1) g'') (fun two g'' κ' h2 hj hκ' => ?_) (fun g'' κ' hj => ?_) 1000 0 _ (by omega) (by omega) ⟨fz.trans (t2.down (by omega)), t3, t4.cong rfl (fun m k1 k2 _ _ _ hp => by unfold Pc3 at *; omega)⟩
      · obtain ⟨j1, j2, j3⟩ := hj
        unfold s_X9_serves_64
        rw [if_neg (by rw [L24, jle (by omega) (by omega)]; omega), Ok_bind, show (1 : Int32) = J ((1 : Nat) : Int) from by decide +kernel]
        refine (folds_ok hn (w.fd v) (j1.td ht) (by omega) j2 h2).mono (fun y hy => ?_)
        obtain ⟨r', hy⟩ := hy
        have c0' : y.2 0 = g'' 0 := r'.1 0 (by omega) (by omega) (by omega) (by omega)
        have fy : FQ 0 g y.2 := j1.trans (r'.fq.down (by omega))
        rcases hy with ⟨v2, y1, y2⟩ | ⟨v2, y1, y2⟩
        · rw [if_neg (by rw [y1, L0, jeq (by omega) (by omega)]; omega), Ok_bind]
          have t5 := tries_ok (S := S) (tr := tr) hn (m := 2) (k1 := one) (k2 := two) (by omega) h1 h2 ((w.fd v).fd v2) (by rw [P3_2, if_pos v, if_pos v2]) (fy.td ht) y2 (fun i hi => by rw [fy.1 2 (by omega) (by omega) (by omega) (by omega) (by omega)]; exact hw i hi) hc (j3.cong c0' (fun m k1 k2 _ _ _ hp => Or.inl hp)) (fun j1 j2 _ _ hb => by unfold bef at hb; unfold Pc3; omega)
          rw [show encL (rowL 2 one two) = 32 * (one : Int) + two from by show 32 * (32 * 0 + (one : Int)) + two = _; omega] at t5
          rw [show (2 : Int32) = J ((2 : Nat) : Int) from by decide +kernel, L32, J_mul, J_add]
          refine t5.mono (fun z24 hz24 => ?_)
          obtain ⟨t6, t7, t8⟩ := hz24
          rw [J_add]
          refine hκ' _ ⟨fy.trans (t6.down (by omega)), ?_, t8.cong rfl (fun m k1 k2 _ _ _ hp => by unfold Pc3 at *; omega)⟩
          exact (t6.down (show 1 ≤ 2 by omega)).h9 (Nat.le_refl 1) hn (r'.h9 (Nat.le_refl 1) hn j2)
        · rw [if_pos (by rw [y1, L0]), J_add]
          refine hκ' _ ⟨fy, r'.h9 (Nat.le_refl 1) hn j2, j3.cong c0' (fun m k1 k2 hm hk1 hk2 hp => ?_)⟩
          by_cases q : m = 2 ∧ k1 = one ∧ k2 = two
          · obtain ⟨e1, e2, e3⟩ := q
            subst e1; subst e2; subst e3
            exact Or.inr (by rw [P3_2, if_pos v, if_neg v2])
          · left; unfold Pc3 at *; omega
      · obtain ⟨j1, j2, j3⟩ := hj
        unfold s_X9_serves_64
        rw [if_pos (by decide +kernel), L1, J_add]
        exact hκ _ ⟨j1, j3.cong rfl (fun m k1 k2 _ _ _ hp => by unfold Pc3 at *; omega)⟩
    · rw [if_pos (show z.1 = J ((0 : Nat) : Int) from z1), L1, J_add]
      refine hκ _ ⟨i1.trans r.fq, i2.cong c0 (fun m k1 k2 hm hk1 hk2 hp => ?_)⟩
      by_cases q : (m = 1 ∨ m = 2) ∧ k1 = one
      · obtain ⟨e1, e2⟩ := q
        subst e2
        rcases e1 with e1 | e1 <;> subst e1
        · exact Or.inr (by rw [P3_1, if_neg v])
        · exact Or.inr (by rw [P3_2, if_neg v])
      · left; unfold Pc3 at *; omega
  · obtain ⟨i1, i2⟩ := hi
    unfold s_X9_serves_39
    rw [if_pos (by decide +kernel)]
    obtain ⟨gb, mb, row, v1, v2, v3, v4, v5, v6, v7⟩ := i2.vs (fun m k1 k2 _ _ _ => by unfold Pc3; omega)
    exact he g' gb mb row i1 v1 v2 v3 v4 v5 v6 v7
