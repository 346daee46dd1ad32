/-! ===== the reference's fold ===== -/
def TD (W H : Nat) (μ : Sg) : Prop := μ 2 0 = J W ∧ μ 2 1 = J H
def H9 (n : Nat) (S : St) (L : Nat) (μ : Sg) : Prop := μ 10 (2 * L) = J (S.1 0) ∧ μ 10 (2 * L + 1) = J (S.1 1) ∧ ∀ c, c < n → μ 9 (64 * L + c) = J (S.2 0 c) ∧ μ 9 (64 * L + 16 + c) = J (S.2 1 c) ∧ μ 9 (64 * L + 32 + c) = J (S.2 2 c) ∧ μ 9 (64 * L + 48 + c) = J (S.2 3 c)
def FR (L : Nat) (μ z : Sg) : Prop := (∀ q, q ≠ 9 → q ≠ 10 → q ≠ 11 → q ≠ 12 → z q = μ q) ∧ (∀ i, i < 64 * (L + 1) → z 9 i = μ 9 i) ∧ (∀ i, i < 2 * L + 2 → z 10 i = μ 10 i)
theorem cells_eq {W H : Nat} {μ : Sg} {tr : Int64} (h : TD W H μ) : f_X9_cells μ tr = some (J ((W * H : Nat) : Int)) := by
  simp (disch := omega) only [f_X9_cells, L0, L1, L2, L3, L4, L5, L6, L7, L8, L9, L10, L11, L12, L16, L21, L22, L24, L28, L32, L35, L40, L48, L57, L59, L64, L97, L100, L122, L200, L1000000, chk_J, jlt, jle, jeq, jcl, J_add, J_sub, J_mul, J_neg, Int.toNat_natCast, Option.bind_some, sgs, sgn, if_true, if_false, Int.toNat_zero, Int.toNat_one, h.1, h.2]
  exact congrArg (fun x => some (J x)) (Int.natCast_mul W H).symm
theorem TD.cong {W H : Nat} {μ z : Sg} (h : TD W H μ) (e : z 2 = μ 2) : TD W H z := by unfold TD; rw [e]; exact h
def lst (f : Nat → Int) : Nat → Int
  | 0 => 100
  | k + 1 => if lst f k ≤ f k then lst f k else f k
def mst (f : Nat → Int) : Nat → Int
  | 0 => -100
  | k + 1 => if f k ≤ mst f k then mst f k else f k
theorem lst_succ (f : Nat → Int) (k : Nat) : lst f (k + 1) = if lst f k ≤ f k then lst f k else f k := rfl
theorem mst_succ (f : Nat → Int) (k : Nat) : mst f (k + 1) = if f k ≤ mst f k then mst f k else f k := rfl
theorem lst_sp {f : Nat → Int} : ∀ {n : Nat}, (∀ c, c < n → -50 ≤ f c ∧ f c ≤ 50) → (∀ c, c < n → lst f n ≤ f c) ∧ (-50 ≤ lst f n ∧ lst f n ≤ 100) ∧ (lst f n = 100 ∨ ∃ c, c < n ∧ f c = lst f n)
  | 0, _ => ⟨fun c hc => by omega, by unfold lst; omega, Or.inl rfl⟩
  | n + 1, h => by
    obtain ⟨h1, h2, h3⟩ := lst_sp (f := f) (n := n) (fun c hc => h c (by omega))
    have hn := h n (by omega)
    rw [lst_succ]
    by_cases q : lst f n ≤ f n
    · rw [if_pos q]
      refine ⟨fun c hc => ?_, h2, ?_⟩
      · by_cases e : c = n
        · rw [e]; exact q
        · exact h1 c (by omega)
      · rcases h3 with h3 | ⟨c, hc, e⟩
        · exact Or.inl h3
        · exact Or.inr ⟨c, by omega, e⟩
    · rw [if_neg q]
      refine ⟨fun c hc => ?_, by omega, Or.inr ⟨n, by omega, rfl⟩⟩
      by_cases e : c = n
      · rw [e]; exact Int.le_refl _
      · have := h1 c (by omega); omega
theorem mst_sp {f : Nat → Int} : ∀ {n : Nat}, (∀ c, c < n → -50 ≤ f c ∧ f c ≤ 50) → (∀ c, c < n → f c ≤ mst f n) ∧ (-100 ≤ mst f n ∧ mst f n ≤ 50) ∧ (mst f n = -100 ∨ ∃ c, c < n ∧ f c = mst f n)
  | 0, _ => ⟨fun c hc => by omega, by unfold mst; omega, Or.inl rfl⟩
  | n + 1, h => by
    obtain ⟨h1, h2, h3⟩ := mst_sp (f := f) (n := n) (fun c hc => h c (by omega))
    have hn := h n (by omega)
    rw [mst_succ]
    by_cases q : f n ≤ mst f n
    · rw [if_pos q]
      refine ⟨fun c hc => ?_, h2, ?_⟩
      · by_cases e : c = n
        · rw [e]; exact q
        · exact h1 c (by omega)
      · rcases h3 with h3 | ⟨c, hc, e⟩
        · exact Or.inl h3
        · exact Or.inr ⟨c, by omega, e⟩
    · rw [if_neg q]
      refine ⟨fun c hc => ?_, by omega, Or.inr ⟨n, by omega, rfl⟩⟩
      by_cases e : c = n
      · rw [e]; exact Int.le_refl _
      · have := h1 c (by omega); omega
theorem ft_bd {n : Nat} {ea eb : Int} {A B L F : Nat → Int} (w : WA n ea eb A B L F) {ln : Int} (h1 : 1 ≤ ln) (h2 : ln < ea) (pt : Bool) (c : Nat) (hc : c < n) : -50 ≤ ft A ln pt c ∧ ft A ln pt c ≤ 50 := by
  have := w.2.2.2.1 c hc
  have := w.2.1
  unfold ft
  split <;> omega
theorem ft_ends {n : Nat} {ea eb : Int} {A B L F : Nat → Int} (w : WA n ea eb A B L F) {ln : Int} (h1 : 1 ≤ ln) (h2 : ln < ea) (pt : Bool) : lst (ft A ln pt) n = - fsh ea ln pt ∧ mst (ft A ln pt) n = fe ea ln - 1 - fsh ea ln pt := by
  have w' := WA.fold w h1 h2 pt true
  obtain ⟨l1, l2, l3⟩ := lst_sp (f := ft A ln pt) (fun c hc => ft_bd w h1 h2 pt c hc)
  obtain ⟨m1, m2, m3⟩ := mst_sp (f := ft A ln pt) (fun c hc => ft_bd w h1 h2 pt c hc)
  have he := w'.2.1
  obtain ⟨c0, hc0, e0⟩ := w'.2.2.2.2.2.1 0 (by omega) (by omega)
  obtain ⟨c1, hc1, e1⟩ := w'.2.2.2.2.2.1 (fe ea ln - 1) (by omega) (by omega)
  rw [fA_ft] at e0 e1
  have b0 := ft_bd w h1 h2 pt c0 hc0
  have b1 := ft_bd w h1 h2 pt c1 hc1
  have x0 := l1 c0 hc0
  have x1 := m1 c1 hc1
  constructor
  · rcases l3 with l3 | ⟨c, hc, e⟩
    · omega
    · have := w'.2.2.2.1 c hc
      rw [fA_ft] at this
      omega
  · rcases m3 with m3 | ⟨c, hc, e⟩
    · omega
    · have := w'.2.2.2.1 c hc
      rw [fA_ft] at this
      omega
theorem nar0 : vp_nar .boolean (J 0) = J 0 := by decide +kernel
theorem nar1 : vp_nar .boolean (J 1) = J 1 := by decide +kernel
/-- many at a place, by whether they go -/
def gB (b : Bool) : Int := if b then 1 else 0
def G1 (n : Nat) (A : Nat → Int) (ln : Int) (pt : Bool) (g : Sg) : Prop := ∀ c, c < n → g 11 c = J (gB (fgo A ln pt c)) ∧ g 12 c = J (ft A ln pt c)
theorem many_go (n : Nat) (A B : Nat → Int) (ln : Int) (pt : Bool) (c : Nat) : cnt (fun k => decide (gB (fgo A ln pt k) = 1) && (decide (ft A ln pt k = ft A ln pt c) && decide (B k = B c))) n = (if fgo A ln pt c then hh n A B (A c) (B c) else hh n A B (2 * ln - 1 - A c) (B c)) := by
  have e : (if fgo A ln pt c then hh n A B (A c) (B c) else hh n A B (2 * ln - 1 - A c) (B c)) = hh n A B (2 * ln - 1 - ft A ln pt c) (B c) := by
    unfold ft
    split
    · rw [show 2 * ln - 1 - (2 * ln - 1 - A c) = A c by omega]
    · rfl
  rw [e]
  have hs := ft_sd A ln pt c
  generalize ft A ln pt c = t at *
  refine cnt_cong (fun k _ => ?_)
  have : (gB (fgo A ln pt k) = 1 ∧ ft A ln pt k = t) ↔ A k = 2 * ln - 1 - t := by
    unfold gB ft
    unfold sd at hs
    cases pt
    · have := hs.2 rfl
      simp only [fgo_f]
      split <;> simp <;> omega
    · have := hs.1 rfl
      simp only [fgo_t]
      split <;> simp <;> omega
  rw [← Bool.and_assoc]
  congr 1
  rw [← Bool.decide_and]
  simp only [this]
theorem many_st (n : Nat) (A B : Nat → Int) (ln : Int) (pt : Bool) (c : Nat) : cnt (fun k => decide (gB (fgo A ln pt k) = 0) && (decide (ft A ln pt k = ft A ln pt c) && decide (B k = B c))) n = (if fgo A ln pt c then hh n A B (2 * ln - 1 - A c) (B c) else hh n A B (A c) (B c)) := by
  have e : (if fgo A ln pt c then hh n A B (2 * ln - 1 - A c) (B c) else hh n A B (A c) (B c)) = hh n A B (ft A ln pt c) (B c) := by
    unfold ft
    split <;> rfl
  rw [e]
  have hs := ft_sd A ln pt c
  generalize ft A ln pt c = t at *
  refine cnt_cong (fun k _ => ?_)
  have : (gB (fgo A ln pt k) = 0 ∧ ft A ln pt k = t) ↔ A k = t := by
    unfold gB ft
    unfold sd at hs
    cases pt
    · have := hs.2 rfl
      simp only [fgo_f]
      split <;> simp <;> omega
    · have := hs.1 rfl
      simp only [fgo_t]
      split <;> simp <;> omega
  rw [← Bool.and_assoc]
  congr 1
  rw [← Bool.decide_and]
  simp only [this]
theorem gB_bd (b : Bool) : 0 ≤ gB b ∧ gB b ≤ 1 := by unfold gB; cases b <;> simp
theorem manyAt_eq {W H : Nat} {g : Sg} {tr : Int64} (ht : TD W H g) (hn : W * H ≤ 16) {A B : Nat → Int} {ln : Int} {pt : Bool} {L ax : Nat} (hL : L ≤ 2) (hax : ax < 2) (h1 : G1 (W * H) A ln pt g) (hb : ∀ k, k < W * H → -50 ≤ ft A ln pt k ∧ ft A ln pt k ≤ 50) (hB : ∀ k, k < W * H → g 9 (64 * L + 16 * (1 - ax) + k) = J (B k) ∧ 0 ≤ B k ∧ B k ≤ 50) {c : Nat} (hc : c < W * H) {gg : Int} (hgg : gg = 0 ∨ gg = 1) :
    f_X9_manyAt g tr (J (64 * L)) (J ax) (J c) (J gg) = some (J (cnt (fun k => decide (gB (fgo A ln pt k) = gg) && (decide (ft A ln pt k = ft A ln pt c) && decide (B k = B c))) (W * H))) := by
  rw [← Ok_eqs]
  have red : f_X9_manyAt g tr (J (64 * L)) (J ax) (J c) (J gg) = j_X9_manyAt_1 g tr (J (64 * L)) (J c) (J gg) (J ((16 * (1 - ax) : Nat) : Int)) := by
    rcases (show ax = 0 ∨ ax = 1 by omega) with e | e <;> subst e
    · simp (disch := omega) only [f_X9_manyAt, L0, L1, L2, L3, L4, L5, L6, L7, L8, L9, L10, L11, L12, L16, L21, L22, L24, L28, L32, L35, L40, L48, L57, L59, L64, L97, L100, L122, L200, L1000000, chk_J, jlt, jle, jeq, jcl, J_add, J_sub, J_mul, J_neg, Int.toNat_natCast, Option.bind_some, sgs, sgn, if_true, if_false, Int.toNat_zero, Int.toNat_one]
      rfl
    · simp (disch := omega) only [f_X9_manyAt, L0, L1, L2, L3, L4, L5, L6, L7, L8, L9, L10, L11, L12, L16, L21, L22, L24, L28, L32, L35, L40, L48, L57, L59, L64, L97, L100, L122, L200, L1000000, chk_J, jlt, jle, jeq, jcl, J_add, J_sub, J_mul, J_neg, Int.toNat_natCast, Option.bind_some, sgs, sgn, if_true, if_false, Int.toNat_zero, Int.toNat_one]
      rw [if_neg (by omega)]
      rfl
  rw [red]
  unfold j_X9_manyAt_1
  have hce := cells_eq (tr := tr) ht
  generalize W * H = n at *
  rw [show (0 : Int32) = J ((0 : Nat) : Int) from by decide]
  refine Ok_for2r n (fun k x => x = J (cnt (fun k => decide (gB (fgo A ln pt k) = gg) && (decide (ft A ln pt k = ft A ln pt c) && decide (B k = B c))) k)) (fun k x κ hk hi hκ => ?_) (fun x κ hi => ?_) 1000 0 _ (by omega) (by omega) rfl
  · subst hi
    obtain ⟨u1, u2⟩ := h1 k hk
    obtain ⟨v1, v2⟩ := h1 c hc
    obtain ⟨p1, p2, p3⟩ := hB k hk
    obtain ⟨q1, q2, q3⟩ := hB c hc
    have f1 := hb k hk
    have f2 := hb c hc
    have f3 := gB_bd (fgo A ln pt k)
    have r1 : ∀ i, i = 64 * L + 16 * (1 - ax) + k → g 9 i = J (B k) := fun i e => by rw [e]; exact p1
    have r2 : ∀ i, i = 64 * L + 16 * (1 - ax) + c → g 9 i = J (B c) := fun i e => by rw [e]; exact q1
    simp (disch := omega) only [s_X9_manyAt_20, j_X9_manyAt_2, L0, L1, L2, L3, L4, L5, L6, L7, L8, L9, L10, L11, L12, L16, L21, L22, L24, L28, L32, L35, L40, L48, L57, L59, L64, L97, L100, L122, L200, L1000000, chk_J, jlt, jle, jeq, jcl, J_add, J_sub, J_mul, J_neg, Int.toNat_natCast, Option.bind_some, sgs, sgn, if_true, if_false, Int.toNat_zero, Int.toNat_one, hce, u1, u2, v2]
    rw [if_neg (by omega), r1 _ (by omega), r2 _ (by omega)]
    simp (disch := omega) only [jeq]
    by_cases e1 : gB (fgo A ln pt k) = gg
    · rw [if_pos e1]
      by_cases e2 : ft A ln pt k = ft A ln pt c
      · rw [if_pos e2]
        by_cases e3 : B k = B c
        · rw [if_pos e3]
          refine hκ _ ?_
          rw [cnt_succ]; simp [e1, e2, e3]
        · rw [if_neg e3]
          refine hκ _ ?_
          rw [cnt_succ]; simp [e3]
      · rw [if_neg e2]
        refine hκ _ ?_
        rw [cnt_succ]; simp [e2]
    · rw [if_neg e1]
      refine hκ _ ?_
      rw [cnt_succ]; simp [e1]
  · simp (disch := omega) only [s_X9_manyAt_20, L0, L1, L2, L3, L4, L5, L6, L7, L8, L9, L10, L11, L12, L16, L21, L22, L24, L28, L32, L35, L40, L48, L57, L59, L64, L97, L100, L122, L200, L1000000, chk_J, jlt, jle, jeq, jcl, J_add, J_sub, J_mul, J_neg, Int.toNat_natCast, Option.bind_some, sgs, sgn, if_true, if_false, Int.toNat_zero, Int.toNat_one, hce]
    rw [if_pos (by omega), Ok_some, hi]
