/-! ===== the reference: flat, now, touches, gain, thick ===== -/
theorem H9.cong {n : Nat} {S : St} {L : Nat} {μ z : Sg} (h : H9 n S L μ) (hn : n ≤ 16) (h9 : ∀ i, i < 64 * (L + 1) → z 9 i = μ 9 i) (h10 : ∀ i, i < 2 * L + 2 → z 10 i = μ 10 i) : H9 n S L z := by
  obtain ⟨a1, a2, a3⟩ := h
  refine ⟨by rw [h10 _ (by omega)]; exact a1, by rw [h10 _ (by omega)]; exact a2, fun c hc => ?_⟩
  rw [h9 _ (by omega), h9 _ (by omega), h9 _ (by omega), h9 _ (by omega)]
  exact a3 c hc
theorem flat_ok {W H : Nat} {μ : Sg} {tr : Int64} (h1 : 1 ≤ W) (h2 : W ≤ 4) (h3 : 1 ≤ H) (h4 : H ≤ 4) (ht : TD W H μ) : Ok (f_X9_flat μ tr) (fun z => H9 (W * H) (Fl W H) 0 z ∧ ∀ q, q ≠ 9 → q ≠ 10 → z q = μ q) := by
  have hm : W * H ≤ 16 := Nat.mul_le_mul h2 h4
  unfold f_X9_flat
  rw [show (0 : Int32) = J ((0 : Nat) : Int) from by decide]
  refine Ok_for2 (W * H) (fun k g => (∀ q, q ≠ 9 → g q = μ q) ∧ ∀ c, c < k → g 9 c = J ((Fl W H).2 0 c) ∧ g 9 (16 + c) = J ((Fl W H).2 1 c) ∧ g 9 (32 + c) = J ((Fl W H).2 2 c) ∧ g 9 (48 + c) = J ((Fl W H).2 3 c)) (fun k g κ hk hi hκ => ?_) (fun g κ hi => ?_) 1000 0 _ (by omega) (by omega) ⟨fun _ _ => rfl, fun c hc => by omega⟩
  · obtain ⟨a1, a2⟩ := hi
    have htg := ht.cong (a1 2 (by omega))
    have hce := cells_eq (tr := tr) htg
    have hk16 : k < 16 := by omega
    have hw0 : g 2 0 = J W := htg.1
    have ed : J k / J W = J ((k / W : Nat) : Int) := J_div (by omega) (by omega) (by omega)
    have em : J k - J ((k / W : Nat) : Int) * J W = J ((k % W : Nat) : Int) := by
      rw [J_mul, J_sub]
      have := congrArg (fun x : Nat => (x : Int)) (Nat.div_add_mod k W)
      simp only [Int.natCast_add, Int.natCast_mul] at this
      refine congrArg J ?_
      rw [Int.mul_comm]
      generalize ((k / W : Nat) : Int) = x at *
      omega
    have i0 : (J (k : Int)).toNatClampNeg = k := by rw [jcl (by omega)]; omega
    have i1 : (J (16 + (k : Int))).toNatClampNeg = 16 + k := by rw [jcl (by omega)]; omega
    have i2 : (J (32 + (k : Int))).toNatClampNeg = 32 + k := by rw [jcl (by omega)]; omega
    have i3 : (J (48 + (k : Int))).toNatClampNeg = 48 + k := by rw [jcl (by omega)]; omega
    have z0 : (J 0).toNatClampNeg = 0 := by decide
    have nz : ¬ J W = J 0 := by rw [jeq (by omega) (by omega)]; omega
    unfold s_X9_flat_2
    rw [hce, Option.bind_some, if_neg (by rw [jle (by omega) (by omega)]; omega)]
    simp (disch := omega) only [L0, L16, L32, L48, L1, J_add, chk_J, z0, hw0, sgn, ed, em, i0, i1, i2, i3]
    unfold cnz
    rw [L0, if_neg nz, if_neg nz]
    refine hκ _ ⟨fun q hq => ?_, fun c hc => ?_⟩
    · funext i; rw [sgn hq, sgn hq, sgn hq, sgn hq, a1 q hq]
    · by_cases e : c = k
      · subst e
        refine ⟨?_, ?_, ?_, ?_⟩
        · rw [sgs, if_neg (by omega), sgs, if_neg (by omega), sgs, if_neg (by omega), sgs, if_pos rfl]; rfl
        · rw [sgs, if_neg (by omega), sgs, if_neg (by omega), sgs, if_pos rfl]; rfl
        · rw [sgs, if_neg (by omega), sgs, if_pos rfl]; rfl
        · rw [sgs, if_pos rfl]; rfl
      · obtain ⟨c1, c2, c3, c4⟩ := a2 c (by omega)
        refine ⟨?_, ?_, ?_, ?_⟩
        · rw [sgs, if_neg (by omega), sgs, if_neg (by omega), sgs, if_neg (by omega), sgs, if_neg (by omega), c1]
        · rw [sgs, if_neg (by omega), sgs, if_neg (by omega), sgs, if_neg (by omega), sgs, if_neg (by omega), c2]
        · rw [sgs, if_neg (by omega), sgs, if_neg (by omega), sgs, if_neg (by omega), sgs, if_neg (by omega), c3]
        · rw [sgs, if_neg (by omega), sgs, if_neg (by omega), sgs, if_neg (by omega), sgs, if_neg (by omega), c4]
  · obtain ⟨a1, a2⟩ := hi
    have htg := ht.cong (a1 2 (by omega))
    have z0 : (J 0).toNatClampNeg = 0 := by decide
    have z1 : (J 1).toNatClampNeg = 1 := by decide
    unfold s_X9_flat_2 j_X9_flat_1
    rw [cells_eq htg, Option.bind_some, if_pos (by rw [jle (by omega) (by omega)]; omega)]
    simp (disch := omega) only [L0, L1, chk_J, z0, z1, Ok_some, sgn, htg.1, htg.2]
    refine ⟨⟨?_, ?_, fun c hc => ?_⟩, fun q h9 h10 => ?_⟩
    · rw [sgs, if_neg (by omega), sgs, if_pos rfl]; rfl
    · rw [sgs, if_pos rfl]; rfl
    · rw [sgn (by omega), sgn (by omega), sgn (by omega), sgn (by omega), sgn (by omega), sgn (by omega), sgn (by omega), sgn (by omega)]
      have := a2 c hc
      rw [Nat.mul_zero, Nat.zero_add, Nat.zero_add, Nat.zero_add, Nat.zero_add]
      exact this
    · funext i; rw [sgn h10, sgn h10, a1 q h9]
theorem falls_ok {n : Nat} {S : St} {μ : Sg} {tr : Int64} (hn : n ≤ 16) (h : H9 n S 1 μ) : Ok (f_X9_falls μ tr (J 1)) (fun z => H9 n S 0 z ∧ ∀ q, q ≠ 9 → q ≠ 10 → z q = μ q) := by
  unfold f_X9_falls
  rw [show (0 : Int32) = J ((0 : Nat) : Int) from by decide]
  refine Ok_for2 64 (fun k g => (∀ q, q ≠ 9 → g q = μ q) ∧ (∀ i, i < k → g 9 i = μ 9 (64 + i)) ∧ ∀ i, 64 ≤ i → g 9 i = μ 9 i) (fun k g κ hk hi hκ => ?_) (fun g κ hi => ?_) 1000 0 _ (by omega) (by omega) ⟨fun _ _ => rfl, fun c hc => by omega, fun _ _ => rfl⟩
  · obtain ⟨a1, a2, a3⟩ := hi
    have i0 : (J (k : Int)).toNatClampNeg = k := by rw [jcl (by omega)]; omega
    have i1 : (J (64 * 1 + (k : Int))).toNatClampNeg = 64 + k := by rw [jcl (by omega)]; omega
    unfold s_X9_falls_2
    simp (disch := omega) only [L64, L1, J_mul, J_add, chk_J, i0, i1]
    rw [if_neg (by rw [jle (by omega) (by omega)]; omega), a3 _ (by omega)]
    refine hκ _ ⟨fun q hq => by funext i; rw [sgn hq, a1 q hq], fun i hi => ?_, fun i hi => ?_⟩
    · rw [sgs]
      by_cases e : i = k
      · rw [if_pos e, e]
      · rw [if_neg e, a2 i (by omega)]
    · rw [sgs, if_neg (by omega), a3 i hi]
  · obtain ⟨a1, a2, a3⟩ := hi
    have z0 : (J 0).toNatClampNeg = 0 := by decide
    have z1 : (J 1).toNatClampNeg = 1 := by decide
    have z2 : (J (2 * 1)).toNatClampNeg = 2 := by decide
    have z3 : (J (2 * 1 + 1)).toNatClampNeg = 3 := by decide
    unfold s_X9_falls_2 j_X9_falls_1
    simp (disch := omega) only [L64, L2, L1, L0, J_mul, J_add, chk_J, z0, z1, z2, z3]
    rw [if_pos (by rw [jle (by omega) (by omega)]; omega), Ok_some, a1 10 (by omega), sgs, if_neg (by omega), a1 10 (by omega)]
    obtain ⟨b1, b2, b3⟩ := h
    refine ⟨⟨?_, ?_, fun c hc => ?_⟩, fun q h9 h10 => ?_⟩
    · rw [sgs, if_neg (by omega), sgs, if_pos rfl]; exact b1
    · rw [sgs, if_pos rfl]; exact b2
    · rw [sgn (by omega), sgn (by omega), sgn (by omega), sgn (by omega), sgn (by omega), sgn (by omega), sgn (by omega), sgn (by omega)]
      rw [a2 _ (by omega), a2 _ (by omega), a2 _ (by omega), a2 _ (by omega)]
      have := b3 c hc
      rw [Nat.mul_zero, Nat.zero_add, Nat.zero_add, Nat.zero_add, Nat.zero_add]
      rw [← Nat.add_assoc, ← Nat.add_assoc, ← Nat.add_assoc]
      exact this
    · funext i; rw [sgn h10, sgn h10, a1 q h9]
/-! the day's folds -/
def FS (W H : Nat) (cd : Nat → Nat) : Nat → St
  | 0 => Fl W H
  | k + 1 => stp (W * H) (FS W H cd k) (cd k)
def VC (W H : Nat) (cd : Nat → Nat) (m : Nat) : Prop := ∀ k, k < m → cd k < 24 ∧ vl (FS W H cd k) (cd k)
theorem WF_FS {W H : Nat} (h1 : 1 ≤ W) (h2 : W ≤ 4) (h3 : 1 ≤ H) (h4 : H ≤ 4) {cd : Nat → Nat} : ∀ {m : Nat}, VC W H cd m → WF (W * H) (FS W H cd m)
  | 0, _ => WF_Fl h1 h2 h3 h4
  | m + 1, h => WF.fd (WF_FS h1 h2 h3 h4 (fun k hk => h k (by omega))) (h m (by omega)).2
theorem now_ok {W H : Nat} {μ : Sg} {tr : Int64} (h1 : 1 ≤ W) (h2 : W ≤ 4) (h3 : 1 ≤ H) (h4 : H ≤ 4) (ht : TD W H μ) {cd : Nat → Nat} {m : Nat} (hm : m ≤ 6) (hv : VC W H cd m) (hc : ∀ k, k < m → μ 4 (2 + k) = J (cd k)) : Ok (f_X9_now μ tr (J m)) (fun z => H9 (W * H) (FS W H cd m) 0 z ∧ ∀ q, q ≠ 9 → q ≠ 10 → q ≠ 11 → q ≠ 12 → z q = μ q) := by
  have hn : W * H ≤ 16 := Nat.mul_le_mul h2 h4
  unfold f_X9_now
  rw [Ok_bind]
  refine (flat_ok h1 h2 h3 h4 ht).mono (fun z hz => ?_)
  obtain ⟨f1, f2⟩ := hz
  rw [show (0 : Int32) = J ((0 : Nat) : Int) from by decide]
  refine Ok_for2 m (fun k g => H9 (W * H) (FS W H cd k) 0 g ∧ ∀ q, q ≠ 9 → q ≠ 10 → q ≠ 11 → q ≠ 12 → g q = μ q) (fun k g κ hk hi hκ => ?_) (fun g κ hi => ?_) 1000 0 _ (by omega) (by omega) ⟨f1, fun q a b _ _ => f2 q a b⟩
  · obtain ⟨a1, a2⟩ := hi
    have i0 : (J (2 + (k : Int))).toNatClampNeg = 2 + k := by rw [jcl (by omega)]; omega
    have c4 : g 4 (2 + k) = J (cd k) := by rw [a2 4 (by omega) (by omega) (by omega) (by omega)]; exact hc k hk
    obtain ⟨v1, v2⟩ := hv k hk
    have wk : WF (W * H) (FS W H cd k) := WF_FS h1 h2 h3 h4 (fun j hj => hv j (by omega))
    have htg := ht.cong (a2 2 (by omega) (by omega) (by omega) (by omega))
    unfold s_X9_now_6
    simp (disch := omega) only [L2, L1, J_add, chk_J, i0, c4]
    rw [if_neg (by rw [jle (by omega) (by omega)]; omega), Ok_bind, show (0 : Int32) = J ((0 : Nat) : Int) from by decide]
    refine (folds_ok hn wk htg (by omega) a1 v1).mono (fun z hz => ?_)
    obtain ⟨⟨r1, r2, r3⟩, hz⟩ := hz
    rcases hz with ⟨-, z1, z2⟩ | ⟨nv, -, -⟩
    · rw [if_neg (by rw [z1, jeq (by omega) (by omega)]; omega), Ok_bind]
      refine (falls_ok hn z2).mono (fun y hy => ?_)
      obtain ⟨y1, y2⟩ := hy
      exact hκ _ ⟨y1, fun q q1 q2 q3 q4 => by rw [y2 q q1 q2, r1 q q1 q2 q3 q4, a2 q q1 q2 q3 q4]⟩
    · exact absurd v2 nv
  · unfold s_X9_now_6
    rw [if_pos (by rw [jle (by omega) (by omega)]; omega), Ok_some]
    exact hi
theorem touches3 {L x y : Nat} {μ : Sg} {fx fy : Int} (hL : L ≤ 3) (hx : x < 16) (hy : y < 16) (hfx : μ 9 (64 * L + 48 + x) = J fx) (hfy : μ 9 (64 * L + 48 + y) = J fy) (bx : fx = 0 ∨ fx = 1) (by_ : fy = 0 ∨ fy = 1) : j_X9_touches_3 μ (J L) (J x) (J y) = some (J (if fx = fy then 3 else if fx = 1 then 1 else 2)) := by
  have i1 : (J (64 * (L : Int) + 48 + x)).toNatClampNeg = 64 * L + 48 + x := by rw [jcl (by omega)]; omega
  have i2 : (J (64 * (L : Int) + 48 + y)).toNatClampNeg = 64 * L + 48 + y := by rw [jcl (by omega)]; omega
  simp (disch := omega) only [j_X9_touches_3, j_X9_touches_4, L64, L48, L0, L1, J_mul, J_add, chk_J, i1, i2, hfx, hfy, jeq]
  rcases bx with bx | bx <;> rcases by_ with by_ | by_ <;> subst bx <;> subst by_ <;> decide +kernel
theorem touches_eq {n : Nat} {S : St} {L : Nat} {μ : Sg} {tr : Int64} (w : WF n S) (hL : L ≤ 3) (h : H9 n S L μ) {a b : Nat} (ha : a < n) (hb : b < n) : f_X9_touches μ tr (J L) (J a) (J b) = some (J (tcP S.2 a b)) := by
  obtain ⟨b1, b2, b3, b4, b5, b6, b7⟩ := w.bd ha
  obtain ⟨-, c2, c3, c4, c5, -, -⟩ := w.bd hb
  obtain ⟨a1, a2, a3, a4⟩ := h.2.2 a ha
  obtain ⟨d1, d2, d3, d4⟩ := h.2.2 b hb
  have ia0 : (J (64 * (L : Int) + a)).toNatClampNeg = 64 * L + a := by rw [jcl (by omega)]; omega
  have ia1 : (J (64 * (L : Int) + 16 + a)).toNatClampNeg = 64 * L + 16 + a := by rw [jcl (by omega)]; omega
  have ia2 : (J (64 * (L : Int) + 32 + a)).toNatClampNeg = 64 * L + 32 + a := by rw [jcl (by omega)]; omega
  have ia3 : (J (64 * (L : Int) + 48 + a)).toNatClampNeg = 64 * L + 48 + a := by rw [jcl (by omega)]; omega
  have ib0 : (J (64 * (L : Int) + b)).toNatClampNeg = 64 * L + b := by rw [jcl (by omega)]; omega
  have ib1 : (J (64 * (L : Int) + 16 + b)).toNatClampNeg = 64 * L + 16 + b := by rw [jcl (by omega)]; omega
  have ib2 : (J (64 * (L : Int) + 32 + b)).toNatClampNeg = 64 * L + 32 + b := by rw [jcl (by omega)]; omega
  have ib3 : (J (64 * (L : Int) + 48 + b)).toNatClampNeg = 64 * L + 48 + b := by rw [jcl (by omega)]; omega
  have f1 := w.fr ha
  have f2 := w.fr hb
  unfold tcP tc
  simp (disch := omega) only [f_X9_touches, L64, L16, L32, J_mul, J_add, chk_J, ia0, ia1, ia2, ib0, ib1, ib2, a1, a2, a3, d1, d2, d3]
  simp (disch := omega) only [L1, J_sub, J_neg, jeq]
  by_cases q1 : S.2 0 a = S.2 0 b
  · rw [if_pos q1]
    by_cases q2 : S.2 1 a = S.2 1 b
    · rw [if_pos q2]
      by_cases q3 : S.2 2 b - S.2 2 a = 1
      · rw [if_pos q3, if_pos ⟨q1, q2, Or.inr q3⟩]
        simp (disch := omega) only [j_X9_touches_1, j_X9_touches_2, L64, L32, L1, J_mul, J_add, J_sub, ia2, ib2, a3, d3, jeq]
        rw [if_pos q3, if_pos q3, touches3 hL (by omega) (by omega) a4 d4 f1 f2, if_pos (show S.2 2 a < S.2 2 b by omega)]
      · rw [if_neg q3]
        by_cases q4 : S.2 2 b - S.2 2 a = -1
        · rw [if_pos q4, if_pos ⟨q1, q2, Or.inl (by omega)⟩]
          simp (disch := omega) only [j_X9_touches_1, j_X9_touches_2, L64, L32, L1, J_mul, J_add, J_sub, ia2, ib2, a3, d3, jeq]
          rw [if_neg q3, if_neg q3, touches3 hL (by omega) (by omega) d4 a4 f2 f1, if_neg (show ¬ S.2 2 a < S.2 2 b by omega)]
          refine congrArg (fun x => some (J x)) ?_
          by_cases q5 : S.2 3 b = S.2 3 a
          · rw [if_pos q5, if_pos q5.symm]
          · rw [if_neg q5, if_neg (Ne.symm q5)]
        · rw [if_neg q4, if_neg (fun g => by have := g.2.2; omega), L0]
    · rw [if_neg q2, if_neg (fun g => q2 g.2.1), L0]
  · rw [if_neg q1, if_neg (fun g => q1 g.1), L0]
theorem gain_eq {W H : Nat} {S : St} {L : Nat} {μ : Sg} {tr : Int64} (w : WF (W * H) S) (ht : TD W H μ) (hL : L ≤ 3) (h : H9 (W * H) S L μ) {wt : Nat → Int} (hw : ∀ i, i < 16 → μ 2 (6 + i) = J (wt i)) {c : Nat} (hc : c < W * H) : f_X9_gain μ tr (J L) (J c) = some (J (gn wt S.2 c (W * H))) := by
  rw [← Ok_eqs]
  unfold f_X9_gain
  have hn := w.1
  have hce := cells_eq (tr := tr) ht
  generalize W * H = n at *
  rw [show (0 : Int32) = J ((0 : Nat) : Int) from by decide]
  refine Ok_for2r n (fun k x => x = J (gn wt S.2 c k)) (fun k x κ hk hi hκ => ?_) (fun x κ hi => ?_) 1000 0 _ (by omega) (by omega) rfl
  · have htr := tcP_range S.2 c k
    have hw1 : ∀ i, i = 6 + k → μ 2 i = J (wt k) := fun i e => by rw [e]; exact hw k (by omega)
    subst hi
    simp (disch := omega) only [s_X9_gain_5, j_X9_gain_1, L0, L1, L2, L3, L4, L5, L6, L7, L8, L9, L10, L11, L12, L16, L21, L22, L24, L28, L32, L35, L40, L48, L57, L59, L64, L97, L100, L122, L200, L1000000, chk_J, jlt, jle, jeq, jcl, J_add, J_sub, J_mul, J_neg, Int.toNat_natCast, Option.bind_some, sgs, sgn, if_true, if_false, Int.toNat_zero, Int.toNat_one, hce, touches_eq w hL h hc hk, hw1]
    rw [if_neg (by omega)]
    by_cases q1 : k = c
    · rw [if_pos (by omega)]
      refine hκ _ ?_
      rw [gn_succ]; simp [q1]
    · rw [if_neg (by omega)]
      by_cases q : tcP S.2 c k = 1
      · rw [if_pos q]
        refine hκ _ ?_
        rw [gn_succ]; simp [q, q1]
      · rw [if_neg q]
        refine hκ _ ?_
        rw [gn_succ]; simp [q]
  · simp (disch := omega) only [s_X9_gain_5, L0, L1, L2, L3, L4, L5, L6, L7, L8, L9, L10, L11, L12, L16, L21, L22, L24, L28, L32, L35, L40, L48, L57, L59, L64, L97, L100, L122, L200, L1000000, chk_J, jlt, jle, jeq, jcl, J_add, J_sub, J_mul, J_neg, Int.toNat_natCast, Option.bind_some, sgs, sgn, if_true, if_false, Int.toNat_zero, Int.toNat_one, hce]
    rw [if_pos (by omega), Ok_some, hi]
theorem thick_eq {W H : Nat} {S : St} {μ : Sg} {tr : Int64} (w : WF (W * H) S) (ht : TD W H μ) (h : H9 (W * H) S 0 μ) : f_X9_thick μ tr = some (J (mxl (S.2 2) (W * H) + 1)) := by
  rw [← Ok_eqs]
  unfold f_X9_thick
  have hn := w.1
  have hce := cells_eq (tr := tr) ht
  generalize W * H = n at *
  rw [show (0 : Int32) = J ((0 : Nat) : Int) from by decide]
  refine Ok_for2r n (fun k x => x = J (mxl (S.2 2) k)) (fun k x κ hk hi hκ => ?_) (fun x κ hi => ?_) 1000 0 _ (by omega) (by omega) rfl
  · have hb := mxl_bd (f := S.2 2) (b := 16) (by omega) (k := k) (fun i hi => by have := (w.bd (show i < n by omega)).2.2.2.1; omega)
    have hv : ∀ i, i = 32 + k → μ 9 i = J (S.2 2 k) := fun i e => by
      rw [e]
      have := (h.2.2 k hk).2.2.1
      rw [Nat.mul_zero, Nat.zero_add] at this
      exact this
    obtain ⟨-, -, -, hl, -⟩ := w.bd hk
    subst hi
    simp (disch := omega) only [s_X9_thick_4, L0, L1, L2, L3, L4, L5, L6, L7, L8, L9, L10, L11, L12, L16, L21, L22, L24, L28, L32, L35, L40, L48, L57, L59, L64, L97, L100, L122, L200, L1000000, chk_J, jlt, jle, jeq, jcl, J_add, J_sub, J_mul, J_neg, Int.toNat_natCast, Option.bind_some, sgs, sgn, if_true, if_false, Int.toNat_zero, Int.toNat_one, hce, hv]
    rw [if_neg (by omega)]
    by_cases q : S.2 2 k ≤ mxl (S.2 2) k
    · rw [if_pos q]
      exact hκ _ (by rw [mxl_succ, if_neg (by omega)])
    · rw [if_neg q]
      exact hκ _ (by rw [mxl_succ, if_pos (by omega)])
  · simp (disch := omega) only [s_X9_thick_4, j_X9_thick_1, L0, L1, L2, L3, L4, L5, L6, L7, L8, L9, L10, L11, L12, L16, L21, L22, L24, L28, L32, L35, L40, L48, L57, L59, L64, L97, L100, L122, L200, L1000000, chk_J, jlt, jle, jeq, jcl, J_add, J_sub, J_mul, J_neg, Int.toNat_natCast, Option.bind_some, sgs, sgn, if_true, if_false, Int.toNat_zero, Int.toNat_one, hce]
    rw [if_pos (by omega), hi, J_add, Ok_some]
theorem bends_eq {n : Nat} {S : St} {μ : Sg} {tr : Int64} (w : WF n S) (h : H9 n S 0 μ) {a b k : Nat} (ha : a < n) (hb : b < n) (hk : k < 24) : f_X9_bends μ tr (J ((k % 2 : Nat) : Int)) (J (kln k)) (J a) (J b) = some (J (if PT S a b k then 1 else 0)) := by
  obtain ⟨b1, b2, b3, b4, b5, b6, b7⟩ := w.bd ha
  obtain ⟨-, c2, c3, c4, c5, -, -⟩ := w.bd hb
  obtain ⟨a1, a2, a3, a4⟩ := h.2.2 a ha
  obtain ⟨d1, d2, d3, d4⟩ := h.2.2 b hb
  rw [Nat.mul_zero, Nat.zero_add] at a1 a2 d1 d2
  have hl := kln_bd hk
  have ia0 : (J (0 + (a : Int))).toNatClampNeg = a := by rw [jcl (by omega)]; omega
  have ia1 : (J (16 + (a : Int))).toNatClampNeg = 16 + a := by rw [jcl (by omega)]; omega
  have ib0 : (J (0 + (b : Int))).toNatClampNeg = b := by rw [jcl (by omega)]; omega
  have ib1 : (J (16 + (b : Int))).toNatClampNeg = 16 + b := by rw [jcl (by omega)]; omega
  have hPT := PT_iff S a b k
  cases hq : PT S a b k <;> rw [hq] at hPT <;> simp only [Bool.false_eq_true, if_false, if_true, false_iff, true_iff] at hPT ⊢
  all_goals
    rcases Nat.mod_two_eq_zero_or_one k with e | e <;> rw [e]
    · simp (disch := omega) only [j_X9_bends_3, j_X9_bends_2, j_X9_bends_1, f_X9_bends, L0, L1, L16, J_add, J_sub, chk_J, ia0, ia1, ib0, ib1, a1, a2, d1, d2, jeq]
      (repeat' split) <;> first | rfl | (exfalso; omega)
    · simp (disch := omega) only [j_X9_bends_3, j_X9_bends_2, j_X9_bends_1, f_X9_bends, L0, L1, L16, J_add, J_sub, chk_J, ia0, ia1, ib0, ib1, a1, a2, d1, d2, jeq]
      (repeat' split) <;> first | rfl | (exfalso; omega)
def nb (W n c way : Nat) : Int := if way = 0 then (if c % W + 1 < W then (c : Int) + 1 else -9) else (if c + W < n then (c : Int) + W else -9)
theorem nbr_eq {W H : Nat} {μ : Sg} {tr : Int64} (h1 : 1 ≤ W) (h2 : W ≤ 4) (hn : W * H ≤ 16) (ht : TD W H μ) {c way : Nat} (hc : c < W * H) (hw : way < 2) : f_X9_neighbour μ tr (J c) (J way) = some (J (nb W (W * H) c way)) := by
  have hce := cells_eq (tr := tr) ht
  have hw0 : μ 2 0 = J W := ht.1
  have z0 : (J 0).toNatClampNeg = 0 := by decide
  have nz : ¬ J W = J 0 := by rw [jeq (by omega) (by omega)]; omega
  have ed : J c / J W = J ((c / W : Nat) : Int) := J_div (by omega) (by omega) (by omega)
  have em : J c - J ((c / W : Nat) : Int) * J W = J ((c % W : Nat) : Int) := by
    rw [J_mul, J_sub]
    have := congrArg (fun x : Nat => (x : Int)) (Nat.div_add_mod c W)
    simp only [Int.natCast_add, Int.natCast_mul] at this
    refine congrArg J ?_
    rw [Int.mul_comm]
    generalize ((c / W : Nat) : Int) = x at *
    omega
  have hml : c % W < W := Nat.mod_lt c (by omega)
  generalize W * H = n at *
  unfold nb f_X9_neighbour cnz
  simp (disch := omega) only [L0, L1, L9, chk_J, z0, hw0, hce, Option.bind_some, ed, em, J_sub, J_add, J_neg]
  generalize c % W = x at *
  rcases (show way = 0 ∨ way = 1 by omega) with q | q <;> subst q
  · have ez : J ((0 : Nat) : Int) = J 0 := rfl
    rw [if_pos ez, if_neg nz, if_pos rfl]
    simp (disch := omega) only [jle]
    by_cases q : x + 1 < W
    · rw [if_neg (by omega), if_pos q]
    · rw [if_pos (by omega), if_neg q]
  · have ne : ¬ J ((1 : Nat) : Int) = J 0 := by rw [jeq (by omega) (by omega)]; omega
    have n10 : ¬ (1 : Nat) = 0 := by omega
    rw [if_neg ne, if_neg n10]
    simp (disch := omega) only [jle]
    by_cases q : c + W < n
    · rw [if_neg (by omega), if_pos q]
    · rw [if_pos (by omega), if_neg q]
