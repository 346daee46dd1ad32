/-! ===== the reference's fold: both loops ===== -/
theorem folds1_0 {W H : Nat} {S : St} {μ : Sg} {tr : Int64} (hn : W * H ≤ 16) (w : WF (W * H) S) (ht : TD W H μ) {L k : Nat} (hL : L ≤ 2) (h : H9 (W * H) S L μ) (hk : k < 24) (e : k % 2 = 0) (hv : vl S k) {E : Int32 → Int32 → Sg → Option (Int32 × Sg)} {P : Int32 × Sg → Prop}
    (hE : ∀ g : Sg, (∀ q, q ≠ 11 → q ≠ 12 → g q = μ q) → G1 (W * H) (S.2 0) (kln k) (kpt k) g → Ok (E (J (- fsh (S.1 0) (kln k) (kpt k))) (J (fe (S.1 0) (kln k) - 1 - fsh (S.1 0) (kln k) (kpt k))) g) P) :
    Ok (lc4 (s_X9_folds_65 tr (J L) (J k) (J 0) E) 1000 (J 100) (J (-100)) (J 0) μ) P := by
  have hl := kln_bd hk
  have hv' : kln k < S.1 0 := by unfold vl at hv; rw [e] at hv; exact hv
  have wa : WA (W * H) (S.1 0) (S.1 1) (S.2 0) (S.2 1) (S.2 2) (S.2 3) := w
  have fb := fun c hc => ft_bd wa hl.1 hv' (kpt k) c hc
  obtain ⟨fe1, fe2⟩ := ft_ends wa hl.1 hv' (kpt k)
  have hce : ∀ g : Sg, g 2 = μ 2 → f_X9_cells g tr = some (J ((W * H : Nat) : Int)) := fun g hg => cells_eq (ht.cong hg)
  have hp : k / 2 % 2 = 0 ∨ k / 2 % 2 = 1 := by omega
  have hkp : (k / 2 % 2 = 0 → kpt k = false) ∧ (k / 2 % 2 = 1 → kpt k = true) := by unfold kpt; constructor <;> intro q <;> simp [q]
  generalize W * H = n at *
  rw [show J 0 = J ((0 : Nat) : Int) from rfl]
  refine Ok_for4 n (fun c x y g => x = J (lst (ft (S.2 0) (kln k) (kpt k)) c) ∧ y = J (mst (ft (S.2 0) (kln k) (kpt k)) c) ∧ (∀ q, q ≠ 11 → q ≠ 12 → g q = μ q) ∧ ∀ d, d < c → g 11 d = J (gB (fgo (S.2 0) (kln k) (kpt k) d)) ∧ g 12 d = J (ft (S.2 0) (kln k) (kpt k) d)) (fun c x y g κ hc hi hκ => ?_) (fun x y g κ hi => ?_) 1000 0 _ _ _ (by omega) (by omega) ⟨rfl, rfl, fun _ _ _ => rfl, fun d hd => by omega⟩
  · obtain ⟨hx, hy, hq, hd⟩ := hi
    subst hx; subst hy
    obtain ⟨b1, b2, b3, b4, b5, b6, b7⟩ := w.bd hc
    have fbc := fb c hc
    obtain ⟨-, l2, -⟩ := lst_sp (f := ft (S.2 0) (kln k) (kpt k)) (n := c) (fun d hd => fb d (by omega))
    obtain ⟨-, m2, -⟩ := mst_sp (f := ft (S.2 0) (kln k) (kpt k)) (n := c) (fun d hd => fb d (by omega))
    have hval : ∀ i, i = 64 * L + 0 + c → g 9 i = J (S.2 0 c) := fun i hi => by rw [hi, hq 9 (by omega) (by omega)]; exact (h.2.2 c hc).1
    have hcg := hce g (hq 2 (by omega) (by omega))
    have fin : ∀ gg : Bool, ∀ t : Int, fgo (S.2 0) (kln k) (kpt k) c = gg → t = ft (S.2 0) (kln k) (kpt k) c → Ok (j_X9_folds_18 (J (lst (ft (S.2 0) (kln k) (kpt k)) c)) (J (mst (ft (S.2 0) (kln k) (kpt k)) c)) (J c) g κ (J (gB gg)) (J t)) P := by
      intro gg t hgg htt
      subst htt
      have hnar : vp_nar .boolean (J (gB gg)) = J (gB gg) := by cases gg; exact nar0; exact nar1
      have nx : ∀ x y, x = J (lst (ft (S.2 0) (kln k) (kpt k)) (c + 1)) → y = J (mst (ft (S.2 0) (kln k) (kpt k)) (c + 1)) → Ok (κ x y (J ((c : Int) + 1)) (sg_st (sg_st g 11 c (J (gB gg))) 12 c (J (ft (S.2 0) (kln k) (kpt k) c)))) P := by
        intro x y hx hy
        refine hκ _ _ _ ⟨hx, hy, fun q h1 h2 => ?_, fun d hdc => ?_⟩
        · funext i; rw [sgn h2, sgn h1, hq q h1 h2]
        · rw [sgn (by omega), sgs, sgs]
          by_cases e' : d = c
          · rw [if_pos e', if_pos e', e', hgg]; exact ⟨rfl, rfl⟩
          · rw [if_neg e', if_neg e', sgn (by omega)]; exact hd d (by omega)
      simp (disch := omega) only [j_X9_folds_18, j_X9_folds_19, L0, L1, L2, L3, L4, L5, L6, L7, L8, L9, L10, L11, L12, L16, L21, L22, L24, L28, L32, L35, L40, L48, L57, L59, L64, L97, L100, L122, L200, L1000000, chk_J, jlt, jle, jeq, jcl, J_add, J_sub, J_mul, J_neg, Int.toNat_natCast, Option.bind_some, sgs, sgn, if_true, if_false, Int.toNat_zero, Int.toNat_one, hnar]
      rw [lst_succ, mst_succ] at nx
      by_cases q1 : lst (ft (S.2 0) (kln k) (kpt k)) c ≤ ft (S.2 0) (kln k) (kpt k) c
      · rw [if_pos q1] at nx ⊢
        by_cases q2 : ft (S.2 0) (kln k) (kpt k) c ≤ mst (ft (S.2 0) (kln k) (kpt k)) c
        · rw [if_pos q2] at nx ⊢; exact nx _ _ rfl rfl
        · rw [if_neg q2] at nx ⊢; exact nx _ _ rfl rfl
      · rw [if_neg q1] at nx ⊢
        by_cases q2 : ft (S.2 0) (kln k) (kpt k) c ≤ mst (ft (S.2 0) (kln k) (kpt k)) c
        · rw [if_pos q2] at nx ⊢; exact nx _ _ rfl rfl
        · rw [if_neg q2] at nx ⊢; exact nx _ _ rfl rfl
    have hstay : fgo (S.2 0) (kln k) (kpt k) c = false → Ok (j_X9_folds_17 (J L) (J k) (J 0) (J (lst (ft (S.2 0) (kln k) (kpt k)) c)) (J (mst (ft (S.2 0) (kln k) (kpt k)) c)) (J c) g κ (J 0)) P := by
      intro hg
      have := fin false (S.2 0 c) hg (by unfold ft; rw [hg]; rfl)
      simp (disch := omega) only [j_X9_folds_17, L0, L1, L2, L3, L4, L5, L6, L7, L8, L9, L10, L11, L12, L16, L21, L22, L24, L28, L32, L35, L40, L48, L57, L59, L64, L97, L100, L122, L200, L1000000, chk_J, jlt, jle, jeq, jcl, J_add, J_sub, J_mul, J_neg, Int.toNat_natCast, Option.bind_some, sgs, sgn, if_true, if_false, Int.toNat_zero, Int.toNat_one, hval, nar0]
      exact this
    have hgo : fgo (S.2 0) (kln k) (kpt k) c = true → Ok (j_X9_folds_17 (J L) (J k) (J 0) (J (lst (ft (S.2 0) (kln k) (kpt k)) c)) (J (mst (ft (S.2 0) (kln k) (kpt k)) c)) (J c) g κ (J 1)) P := by
      intro hg
      have := fin true (2 * kln k - 1 - S.2 0 c) hg (by unfold ft; rw [hg]; rfl)
      simp (disch := omega) only [j_X9_folds_17, cd_dv hk, L0, L1, L2, L3, L4, L5, L6, L7, L8, L9, L10, L11, L12, L16, L21, L22, L24, L28, L32, L35, L40, L48, L57, L59, L64, L97, L100, L122, L200, L1000000, chk_J, jlt, jle, jeq, jcl, J_add, J_sub, J_mul, J_neg, Int.toNat_natCast, Option.bind_some, sgs, sgn, if_true, if_false, Int.toNat_zero, Int.toNat_one, hval, nar1]
      rw [if_neg (by omega)]
      exact this
    simp (disch := omega) only [s_X9_folds_65, cd_dv hk, cd_pt hk, L0, L1, L2, L3, L4, L5, L6, L7, L8, L9, L10, L11, L12, L16, L21, L22, L24, L28, L32, L35, L40, L48, L57, L59, L64, L97, L100, L122, L200, L1000000, chk_J, jlt, jle, jeq, jcl, J_add, J_sub, J_mul, J_neg, Int.toNat_natCast, Option.bind_some, sgs, sgn, if_true, if_false, Int.toNat_zero, Int.toNat_one, hcg, hval]
    rw [if_neg (by omega)]
    rcases hp with hp | hp
    · rw [if_pos (by omega)]
      by_cases q : kln k ≤ S.2 0 c
      · rw [if_pos q]
        exact hstay (by rw [hkp.1 hp, fgo_xor]; simp; omega)
      · rw [if_neg q]
        exact hgo (by rw [hkp.1 hp, fgo_xor]; simp; omega)
    · rw [if_neg (by omega)]
      by_cases q : S.2 0 c < kln k
      · rw [if_pos q]
        exact hstay (by rw [hkp.2 hp, fgo_xor]; simp; omega)
      · rw [if_neg q]
        exact hgo (by rw [hkp.2 hp, fgo_xor]; simp; omega)
  · obtain ⟨hx, hy, hq, hd⟩ := hi
    simp (disch := omega) only [s_X9_folds_65, L0, L1, L2, L3, L4, L5, L6, L7, L8, L9, L10, L11, L12, L16, L21, L22, L24, L28, L32, L35, L40, L48, L57, L59, L64, L97, L100, L122, L200, L1000000, chk_J, jlt, jle, jeq, jcl, J_add, J_sub, J_mul, J_neg, Int.toNat_natCast, Option.bind_some, sgs, sgn, if_true, if_false, Int.toNat_zero, Int.toNat_one, hce g (hq 2 (by omega) (by omega))]
    rw [if_pos (by omega), hx, hy, fe1, fe2]
    exact hE g hq hd
theorem folds1_1 {W H : Nat} {S : St} {μ : Sg} {tr : Int64} (hn : W * H ≤ 16) (w : WF (W * H) S) (ht : TD W H μ) {L k : Nat} (hL : L ≤ 2) (h : H9 (W * H) S L μ) (hk : k < 24) (e : k % 2 = 1) (hv : vl S k) {E : Int32 → Int32 → Sg → Option (Int32 × Sg)} {P : Int32 × Sg → Prop}
    (hE : ∀ g : Sg, (∀ q, q ≠ 11 → q ≠ 12 → g q = μ q) → G1 (W * H) (S.2 1) (kln k) (kpt k) g → Ok (E (J (- fsh (S.1 1) (kln k) (kpt k))) (J (fe (S.1 1) (kln k) - 1 - fsh (S.1 1) (kln k) (kpt k))) g) P) :
    Ok (lc4 (s_X9_folds_65 tr (J L) (J k) (J 16) E) 1000 (J 100) (J (-100)) (J 0) μ) P := by
  have hl := kln_bd hk
  have hv' : kln k < S.1 1 := by unfold vl at hv; rw [e] at hv; exact hv
  have wa : WA (W * H) (S.1 1) (S.1 0) (S.2 1) (S.2 0) (S.2 2) (S.2 3) := WA.swap w
  have fb := fun c hc => ft_bd wa hl.1 hv' (kpt k) c hc
  obtain ⟨fe1, fe2⟩ := ft_ends wa hl.1 hv' (kpt k)
  have hce : ∀ g : Sg, g 2 = μ 2 → f_X9_cells g tr = some (J ((W * H : Nat) : Int)) := fun g hg => cells_eq (ht.cong hg)
  have hp : k / 2 % 2 = 0 ∨ k / 2 % 2 = 1 := by omega
  have hkp : (k / 2 % 2 = 0 → kpt k = false) ∧ (k / 2 % 2 = 1 → kpt k = true) := by unfold kpt; constructor <;> intro q <;> simp [q]
  generalize W * H = n at *
  rw [show J 0 = J ((0 : Nat) : Int) from rfl]
  refine Ok_for4 n (fun c x y g => x = J (lst (ft (S.2 1) (kln k) (kpt k)) c) ∧ y = J (mst (ft (S.2 1) (kln k) (kpt k)) c) ∧ (∀ q, q ≠ 11 → q ≠ 12 → g q = μ q) ∧ ∀ d, d < c → g 11 d = J (gB (fgo (S.2 1) (kln k) (kpt k) d)) ∧ g 12 d = J (ft (S.2 1) (kln k) (kpt k) d)) (fun c x y g κ hc hi hκ => ?_) (fun x y g κ hi => ?_) 1000 0 _ _ _ (by omega) (by omega) ⟨rfl, rfl, fun _ _ _ => rfl, fun d hd => by omega⟩
  · obtain ⟨hx, hy, hq, hd⟩ := hi
    subst hx; subst hy
    obtain ⟨b1, b2, b3, b4, b5, b6, b7⟩ := w.bd hc
    have fbc := fb c hc
    obtain ⟨-, l2, -⟩ := lst_sp (f := ft (S.2 1) (kln k) (kpt k)) (n := c) (fun d hd => fb d (by omega))
    obtain ⟨-, m2, -⟩ := mst_sp (f := ft (S.2 1) (kln k) (kpt k)) (n := c) (fun d hd => fb d (by omega))
    have hval : ∀ i, i = 64 * L + 16 + c → g 9 i = J (S.2 1 c) := fun i hi => by rw [hi, hq 9 (by omega) (by omega)]; exact (h.2.2 c hc).2.1
    have hcg := hce g (hq 2 (by omega) (by omega))
    have fin : ∀ gg : Bool, ∀ t : Int, fgo (S.2 1) (kln k) (kpt k) c = gg → t = ft (S.2 1) (kln k) (kpt k) c → Ok (j_X9_folds_18 (J (lst (ft (S.2 1) (kln k) (kpt k)) c)) (J (mst (ft (S.2 1) (kln k) (kpt k)) c)) (J c) g κ (J (gB gg)) (J t)) P := by
      intro gg t hgg htt
      subst htt
      have hnar : vp_nar .boolean (J (gB gg)) = J (gB gg) := by cases gg; exact nar0; exact nar1
      have nx : ∀ x y, x = J (lst (ft (S.2 1) (kln k) (kpt k)) (c + 1)) → y = J (mst (ft (S.2 1) (kln k) (kpt k)) (c + 1)) → Ok (κ x y (J ((c : Int) + 1)) (sg_st (sg_st g 11 c (J (gB gg))) 12 c (J (ft (S.2 1) (kln k) (kpt k) c)))) P := by
        intro x y hx hy
        refine hκ _ _ _ ⟨hx, hy, fun q h1 h2 => ?_, fun d hdc => ?_⟩
        · funext i; rw [sgn h2, sgn h1, hq q h1 h2]
        · rw [sgn (by omega), sgs, sgs]
          by_cases e' : d = c
          · rw [if_pos e', if_pos e', e', hgg]; exact ⟨rfl, rfl⟩
          · rw [if_neg e', if_neg e', sgn (by omega)]; exact hd d (by omega)
      simp (disch := omega) only [j_X9_folds_18, j_X9_folds_19, L0, L1, L2, L3, L4, L5, L6, L7, L8, L9, L10, L11, L12, L16, L21, L22, L24, L28, L32, L35, L40, L48, L57, L59, L64, L97, L100, L122, L200, L1000000, chk_J, jlt, jle, jeq, jcl, J_add, J_sub, J_mul, J_neg, Int.toNat_natCast, Option.bind_some, sgs, sgn, if_true, if_false, Int.toNat_zero, Int.toNat_one, hnar]
      rw [lst_succ, mst_succ] at nx
      by_cases q1 : lst (ft (S.2 1) (kln k) (kpt k)) c ≤ ft (S.2 1) (kln k) (kpt k) c
      · rw [if_pos q1] at nx ⊢
        by_cases q2 : ft (S.2 1) (kln k) (kpt k) c ≤ mst (ft (S.2 1) (kln k) (kpt k)) c
        · rw [if_pos q2] at nx ⊢; exact nx _ _ rfl rfl
        · rw [if_neg q2] at nx ⊢; exact nx _ _ rfl rfl
      · rw [if_neg q1] at nx ⊢
        by_cases q2 : ft (S.2 1) (kln k) (kpt k) c ≤ mst (ft (S.2 1) (kln k) (kpt k)) c
        · rw [if_pos q2] at nx ⊢; exact nx _ _ rfl rfl
        · rw [if_neg q2] at nx ⊢; exact nx _ _ rfl rfl
    have hstay : fgo (S.2 1) (kln k) (kpt k) c = false → Ok (j_X9_folds_17 (J L) (J k) (J 16) (J (lst (ft (S.2 1) (kln k) (kpt k)) c)) (J (mst (ft (S.2 1) (kln k) (kpt k)) c)) (J c) g κ (J 0)) P := by
      intro hg
      have := fin false (S.2 1 c) hg (by unfold ft; rw [hg]; rfl)
      simp (disch := omega) only [j_X9_folds_17, L0, L1, L2, L3, L4, L5, L6, L7, L8, L9, L10, L11, L12, L16, L21, L22, L24, L28, L32, L35, L40, L48, L57, L59, L64, L97, L100, L122, L200, L1000000, chk_J, jlt, jle, jeq, jcl, J_add, J_sub, J_mul, J_neg, Int.toNat_natCast, Option.bind_some, sgs, sgn, if_true, if_false, Int.toNat_zero, Int.toNat_one, hval, nar0]
      exact this
    have hgo : fgo (S.2 1) (kln k) (kpt k) c = true → Ok (j_X9_folds_17 (J L) (J k) (J 16) (J (lst (ft (S.2 1) (kln k) (kpt k)) c)) (J (mst (ft (S.2 1) (kln k) (kpt k)) c)) (J c) g κ (J 1)) P := by
      intro hg
      have := fin true (2 * kln k - 1 - S.2 1 c) hg (by unfold ft; rw [hg]; rfl)
      simp (disch := omega) only [j_X9_folds_17, cd_dv hk, L0, L1, L2, L3, L4, L5, L6, L7, L8, L9, L10, L11, L12, L16, L21, L22, L24, L28, L32, L35, L40, L48, L57, L59, L64, L97, L100, L122, L200, L1000000, chk_J, jlt, jle, jeq, jcl, J_add, J_sub, J_mul, J_neg, Int.toNat_natCast, Option.bind_some, sgs, sgn, if_true, if_false, Int.toNat_zero, Int.toNat_one, hval, nar1]
      rw [if_neg (by omega)]
      exact this
    simp (disch := omega) only [s_X9_folds_65, cd_dv hk, cd_pt hk, L0, L1, L2, L3, L4, L5, L6, L7, L8, L9, L10, L11, L12, L16, L21, L22, L24, L28, L32, L35, L40, L48, L57, L59, L64, L97, L100, L122, L200, L1000000, chk_J, jlt, jle, jeq, jcl, J_add, J_sub, J_mul, J_neg, Int.toNat_natCast, Option.bind_some, sgs, sgn, if_true, if_false, Int.toNat_zero, Int.toNat_one, hcg, hval]
    rw [if_neg (by omega)]
    rcases hp with hp | hp
    · rw [if_pos (by omega)]
      by_cases q : kln k ≤ S.2 1 c
      · rw [if_pos q]
        exact hstay (by rw [hkp.1 hp, fgo_xor]; simp; omega)
      · rw [if_neg q]
        exact hgo (by rw [hkp.1 hp, fgo_xor]; simp; omega)
    · rw [if_neg (by omega)]
      by_cases q : S.2 1 c < kln k
      · rw [if_pos q]
        exact hstay (by rw [hkp.2 hp, fgo_xor]; simp; omega)
      · rw [if_neg q]
        exact hgo (by rw [hkp.2 hp, fgo_xor]; simp; omega)
  · obtain ⟨hx, hy, hq, hd⟩ := hi
    simp (disch := omega) only [s_X9_folds_65, L0, L1, L2, L3, L4, L5, L6, L7, L8, L9, L10, L11, L12, L16, L21, L22, L24, L28, L32, L35, L40, L48, L57, L59, L64, L97, L100, L122, L200, L1000000, chk_J, jlt, jle, jeq, jcl, J_add, J_sub, J_mul, J_neg, Int.toNat_natCast, Option.bind_some, sgs, sgn, if_true, if_false, Int.toNat_zero, Int.toNat_one, hce g (hq 2 (by omega) (by omega))]
    rw [if_pos (by omega), hx, hy, fe1, fe2]
    exact hE g hq hd
