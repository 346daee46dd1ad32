/-! ===== the reference's fold: the second loop ===== -/
def I2 (n L : Nat) (S' : St) (g0 : Sg) (c : Nat) (g : Sg) : Prop := (∀ q, q ≠ 9 → g q = g0 q) ∧ (∀ i, i < 64 * (L + 1) → g 9 i = g0 9 i) ∧ ∀ d, d < c → d < n → g 9 (64 * (L + 1) + d) = J (S'.2 0 d) ∧ g 9 (64 * (L + 1) + 16 + d) = J (S'.2 1 d) ∧ g 9 (64 * (L + 1) + 32 + d) = J (S'.2 2 d) ∧ g 9 (64 * (L + 1) + 48 + d) = J (S'.2 3 d)
theorem I2.nx {n L : Nat} {S' : St} {g0 : Sg} {c : Nat} {g g' : Sg} (hn : n ≤ 16) (hc : c < n) (h : I2 n L S' g0 c g) (h9 : ∀ q, q ≠ 9 → g' q = g q) (hi : ∀ i, i < 64 * (L + 1) → g' 9 i = g 9 i) (hd : ∀ o d, o < 4 → d < 16 → d ≠ c → g' 9 (64 * (L + 1) + 16 * o + d) = g 9 (64 * (L + 1) + 16 * o + d))
    (h0 : g' 9 (64 * (L + 1) + c) = J (S'.2 0 c)) (h1 : g' 9 (64 * (L + 1) + 16 + c) = J (S'.2 1 c)) (h2 : g' 9 (64 * (L + 1) + 32 + c) = J (S'.2 2 c)) (h3 : g' 9 (64 * (L + 1) + 48 + c) = J (S'.2 3 c)) : I2 n L S' g0 (c + 1) g' := by
  obtain ⟨a1, a2, a3⟩ := h
  refine ⟨fun q hq => by rw [h9 q hq, a1 q hq], fun i hlt => by rw [hi i hlt, a2 i hlt], fun d hdc hdn => ?_⟩
  by_cases e : d = c
  · subst e; exact ⟨h0, h1, h2, h3⟩
  · have b0 := hd 0 d (by omega) (by omega) e
    have b1 := hd 1 d (by omega) (by omega) e
    have b2 := hd 2 d (by omega) (by omega) e
    have b3 := hd 3 d (by omega) (by omega) e
    simp only [Nat.mul_zero, Nat.add_zero, Nat.mul_one, Nat.reduceMul] at b0 b1 b2 b3
    rw [b0, b1, b2, b3]
    exact a3 d (by omega) hdn
theorem j14 : @j_X9_folds_14 = @j_X9_folds_7 := rfl
theorem j13 : @j_X9_folds_13 = @j_X9_folds_6 := rfl
theorem j12 : @j_X9_folds_12 = @j_X9_folds_5 := rfl
theorem j11 : @j_X9_folds_11 = @j_X9_folds_4 := rfl
theorem j15 : @j_X9_folds_15 = @j_X9_folds_8 := rfl
theorem j16 : @j_X9_folds_16 = @j_X9_folds_9 := rfl
theorem j10 : @j_X9_folds_10 = @j_X9_folds_3 := rfl
/-- the next level's numbers of a cell are written -/
def NX (L c ao co : Nat) (g g' : Sg) (va vc vl vf : Int) : Prop := (∀ q, q ≠ 9 → g' q = g q) ∧ (∀ i, i < 64 * (L + 1) → g' 9 i = g 9 i) ∧ (∀ o d, o < 4 → d < 16 → d ≠ c → g' 9 (64 * (L + 1) + 16 * o + d) = g 9 (64 * (L + 1) + 16 * o + d)) ∧
  g' 9 (64 * (L + 1) + ao + c) = J va ∧ g' 9 (64 * (L + 1) + co + c) = J vc ∧ g' 9 (64 * (L + 1) + 32 + c) = J vl ∧ g' 9 (64 * (L + 1) + 48 + c) = J vf
theorem st7 {L c ao co : Nat} (hL : L ≤ 2) (hc : c < 16) (hac : (ao = 0 ∧ co = 16) ∨ (ao = 16 ∧ co = 0)) {g : Sg} {ls va vc l f : Int} (h12 : g 12 c = J va) (h9 : g 9 (64 * L + co + c) = J vc) {κ : Int32 → Sg → Option (Int32 × Sg)} {P : Int32 × Sg → Prop} (hκ : ∀ g', NX L c ao co g g' (va - ls) vc l f → Ok (κ (J ((c : Int) + 1)) g') P) :
    Ok (j_X9_folds_7 (J L) (J ao) (J ls) (J c) g κ (J l) (J f) (J co) (J co)) P := by
  unfold j_X9_folds_7
  simp (disch := omega) only [L64, L32, L48, L1, J_mul, J_add, chk_J]
  have i2 : (J (64 * (L : Int) + 64 + 32 + c)).toNatClampNeg = 64 * (L + 1) + 32 + c := by rw [jcl (by omega)]; omega
  have i3 : (J (64 * (L : Int) + 64 + 48 + c)).toNatClampNeg = 64 * (L + 1) + 48 + c := by rw [jcl (by omega)]; omega
  have i4 : (J (64 * (L : Int) + 64 + co + c)).toNatClampNeg = 64 * (L + 1) + co + c := by rw [jcl (by omega)]; omega
  have i5 : (J (64 * (L : Int) + 64 + ao + c)).toNatClampNeg = 64 * (L + 1) + ao + c := by rw [jcl (by omega)]; omega
  have i6 : (J (64 * (L : Int) + co + c)).toNatClampNeg = 64 * L + co + c := by rw [jcl (by omega)]; omega
  have i7 : (J (c : Int)).toNatClampNeg = c := by rw [jcl (by omega)]; omega
  rw [i2, i3, i4, i5, i6, i7]
  have e1 : (sg_st (sg_st g 9 (64 * (L + 1) + 32 + c) (J l)) 9 (64 * (L + 1) + 48 + c) (J f)) 9 (64 * L + co + c) = J vc := by
    rw [sgs, if_neg (by omega), sgs, if_neg (by omega), h9]
  rw [e1]
  have e2 : (sg_st (sg_st (sg_st g 9 (64 * (L + 1) + 32 + c) (J l)) 9 (64 * (L + 1) + 48 + c) (J f)) 9 (64 * (L + 1) + co + c) (J vc)) 12 c = J va := by
    rw [sgn (by omega), sgn (by omega), sgn (by omega), h12]
  rw [e2, J_sub]
  refine hκ _ ⟨fun q hq => ?_, fun i hi => ?_, fun o d ho hd hne => ?_, ?_, ?_, ?_, ?_⟩
  · funext i; rw [sgn hq, sgn hq, sgn hq, sgn hq]
  · rw [sgs, if_neg (by omega), sgs, if_neg (by omega), sgs, if_neg (by omega), sgs, if_neg (by omega)]
  · rw [sgs, if_neg (by omega), sgs, if_neg (by omega), sgs, if_neg (by omega), sgs, if_neg (by omega)]
  · rw [sgs, if_pos rfl]
  · rw [sgs, if_neg (by omega), sgs, if_pos rfl]
  · rw [sgs, if_neg (by omega), sgs, if_neg (by omega), sgs, if_neg (by omega), sgs, if_pos rfl]
  · rw [sgs, if_neg (by omega), sgs, if_neg (by omega), sgs, if_pos rfl]
theorem st4 {L c ax k : Nat} (hL : L ≤ 2) (hc : c < 16) (hax : ax < 2) (hk : k < 24) (e : k % 2 = ax) {g : Sg} {ls va vc l F : Int} {go : Bool} (h11 : g 11 c = J (gB go)) (h12 : g 12 c = J va) (h9 : g 9 (64 * L + 16 * (1 - ax) + c) = J vc) (h3 : g 9 (64 * L + 48 + c) = J F) {κ : Int32 → Sg → Option (Int32 × Sg)} {P : Int32 × Sg → Prop} (hκ : ∀ g', NX L c (16 * ax) (16 * (1 - ax)) g g' (va - ls) vc l (if go then 1 - F else F) → Ok (κ (J ((c : Int) + 1)) g') P) :
    Ok (j_X9_folds_4 (J L) (J k) (J ((16 * ax : Nat) : Int)) (J ls) (J c) g κ (J l)) P := by
  have i2 : (J (64 * (L : Int) + 64 + 32 + c)).toNatClampNeg = 64 * (L + 1) + 32 + c := by rw [jcl (by omega)]; omega
  have i6 : (J (64 * (L : Int) + 48 + c)).toNatClampNeg = 64 * L + 48 + c := by rw [jcl (by omega)]; omega
  have i7 : (J (c : Int)).toNatClampNeg = c := by rw [jcl (by omega)]; omega
  have f5 : ∀ f : Int, f = (if go then 1 - F else F) → Ok (j_X9_folds_5 (J L) (J k) (J ((16 * ax : Nat) : Int)) (J ls) (J c) g κ (J l) (J f)) P := by
    intro f hf
    subst hf
    unfold j_X9_folds_5 j_X9_folds_6
    simp (disch := omega) only [L64, L48, L16, L1, L0, J_mul, J_add, chk_J, cd_ax hk, e]
    rcases (show ax = 0 ∨ ax = 1 by omega) with q | q <;> subst q
    · have ez : J ((0 : Nat) : Int) = J 0 := rfl
      rw [if_pos ez, if_pos ez]
      exact st7 (ao := 0) (co := 16) hL hc (Or.inl ⟨rfl, rfl⟩) h12 h9 hκ
    · have ne : ¬ J ((1 : Nat) : Int) = J 0 := by rw [jeq (by omega) (by omega)]; omega
      rw [if_neg ne, if_neg ne]
      exact st7 (ao := 16) (co := 0) hL hc (Or.inr ⟨rfl, rfl⟩) h12 h9 hκ
  unfold j_X9_folds_4
  simp (disch := omega) only [L64, L32, L48, L1, L0, J_mul, J_add, chk_J]
  have q3 : (sg_st g 9 (64 * (L + 1) + 32 + c) (J l)) 9 (64 * L + 48 + c) = J F := by rw [sgs, if_neg (by omega), h3]
  rw [i2, i6, i7, sgn (by omega), h11, q3]
  cases go
  · have ez : J (gB false) = J 0 := rfl
    rw [if_pos ez]
    exact f5 _ rfl
  · have ne : ¬ J (gB true) = J 0 := by rw [show gB true = 1 from rfl, jeq (by omega) (by omega)]; omega
    rw [if_neg ne, J_sub]
    exact f5 _ rfl
theorem folds2_ok {W H : Nat} {S : St} {g0 : Sg} {tr : Int64} (hn : W * H ≤ 16) (w : WF (W * H) S) (ht : TD W H g0) {L k ax : Nat} (hL : L ≤ 2) (h : H9 (W * H) S L g0) (hk : k < 24) (hax : ax < 2) (e : k % 2 = ax) (hv : vl S k) (h1 : G1 (W * H) (S.2 ax) (kln k) (kpt k) g0) :
    Ok (j_X9_folds_2 tr (J L) (J k) (J ((16 * ax : Nat) : Int)) (J (- fsh (S.1 ax) (kln k) (kpt k))) (J (fe (S.1 ax) (kln k) - 1 - fsh (S.1 ax) (kln k) (kpt k))) g0) (fun z => z.1 = J 1 ∧ (∀ q, q ≠ 9 → q ≠ 10 → z.2 q = g0 q) ∧ (∀ i, i < 64 * (L + 1) → z.2 9 i = g0 9 i) ∧ (∀ i, i < 2 * L + 2 → z.2 10 i = g0 10 i) ∧ H9 (W * H) (stp (W * H) S k) (L + 1) z.2) := by
  have hl := kln_bd hk
  have hv' : kln k < S.1 ax := by unfold vl at hv; rw [e] at hv; exact hv
  have wa : WA (W * H) (S.1 ax) (S.1 (1 - ax)) (S.2 ax) (S.2 (1 - ax)) (S.2 2) (S.2 3) := by
    rcases (show ax = 0 ∨ ax = 1 by omega) with q | q
    · subst q; exact w
    · subst q; exact WA.swap w
  have fb := fun c hc => ft_bd wa hl.1 hv' (kpt k) c hc
  have w2 := wa.2.1
  have w3 := wa.2.2.1
  have hsh : -10 ≤ fsh (S.1 ax) (kln k) (kpt k) ∧ fsh (S.1 ax) (kln k) (kpt k) ≤ 10 := by
    unfold fsh
    cases kpt k <;> simp <;> (repeat' split) <;> omega
  have hfe : 0 ≤ fe (S.1 ax) (kln k) ∧ fe (S.1 ax) (kln k) ≤ 10 := by unfold fe; split <;> omega
  have bnd : ∀ d, d < W * H → (0 ≤ S.2 ax d ∧ S.2 ax d < 4) ∧ (0 ≤ S.2 (1 - ax) d ∧ S.2 (1 - ax) d < 4) := fun d hd => by
    have a := wa.2.2.2.1 d hd
    have b := wa.2.2.2.2.1 d hd
    omega
  have hax9 : ∀ g : Sg, (∀ i, i < 64 * (L + 1) → g 9 i = g0 9 i) → ∀ d, d < W * H → g 9 (64 * L + 16 * (1 - ax) + d) = J (S.2 (1 - ax) d) := fun g hg d hd => by
    rw [hg _ (by omega)]
    rcases (show ax = 0 ∨ ax = 1 by omega) with q | q
    · subst q; exact (h.2.2 d hd).2.1
    · subst q; exact (h.2.2 d hd).1
  have sax : ∀ d, (stp (W * H) S k).2 ax d = ft (S.2 ax) (kln k) (kpt k) d + fsh (S.1 ax) (kln k) (kpt k) ∧ (stp (W * H) S k).2 (1 - ax) d = S.2 (1 - ax) d ∧ (stp (W * H) S k).2 2 d = fL (W * H) (S.2 ax) (S.2 (1 - ax)) (S.2 2) (kln k) (kpt k) (kov k) d ∧ (stp (W * H) S k).2 3 d = fF (S.2 ax) (S.2 3) (kln k) (kpt k) d := by
    intro d
    rcases (show ax = 0 ∨ ax = 1 by omega) with q | q
    · subst q; rw [stp0 e]; exact ⟨rfl, rfl, rfl, rfl⟩
    · subst q; rw [stp1 e]; exact ⟨rfl, rfl, rfl, rfl⟩
  -- one cell
  have one : ∀ (ov : Bool), kov k = ov → ∀ (c : Nat) (g : Sg) (κ : Int32 → Sg → Option (Int32 × Sg)) (P : Int32 × Sg → Prop), c < W * H → I2 (W * H) L (stp (W * H) S k) g0 c g → (∀ g', I2 (W * H) L (stp (W * H) S k) g0 (c + 1) g' → Ok (κ (J ((c : Int) + 1)) g') P) →
      ∀ l : Int, l = fL (W * H) (S.2 ax) (S.2 (1 - ax)) (S.2 2) (kln k) (kpt k) (kov k) c → Ok (j_X9_folds_4 (J L) (J k) (J ((16 * ax : Nat) : Int)) (J (- fsh (S.1 ax) (kln k) (kpt k))) (J c) g κ (J l)) P := by
    intro ov hov c g κ P hc hi hκ l hlq
    obtain ⟨a1, a2, a3⟩ := hi
    obtain ⟨s0, s1, s2, s3⟩ := sax c
    refine st4 hL (by omega) hax hk e (go := fgo (S.2 ax) (kln k) (kpt k) c) (va := ft (S.2 ax) (kln k) (kpt k) c) (vc := S.2 (1 - ax) c) (F := S.2 3 c) ?_ ?_ (hax9 g a2 c hc) ?_ (fun g' hg' => ?_)
    · rw [a1 11 (by omega)]; exact (h1 c hc).1
    · rw [a1 12 (by omega)]; exact (h1 c hc).2
    · rw [a2 _ (by omega)]; exact (h.2.2 c hc).2.2.2
    · obtain ⟨n1, n2, n3, n4, n5, n6, n7⟩ := hg'
      have v3 : (if fgo (S.2 ax) (kln k) (kpt k) c then 1 - S.2 3 c else S.2 3 c) = (stp (W * H) S k).2 3 c := by rw [s3]; rfl
      rw [v3] at n7
      rw [hlq, ← s2] at n6
      have v0 : ft (S.2 ax) (kln k) (kpt k) c - - fsh (S.1 ax) (kln k) (kpt k) = (stp (W * H) S k).2 ax c := by rw [s0]; omega
      rw [v0] at n4
      rw [← s1] at n5
      refine hκ g' ?_
      rcases (show ax = 0 ∨ ax = 1 by omega) with q | q
      · subst q; exact I2.nx hn hc ⟨a1, a2, a3⟩ n1 n2 n3 n4 n5 n6 n7
      · subst q; exact I2.nx hn hc ⟨a1, a2, a3⟩ n1 n2 n3 n5 n4 n6 n7
  -- the end
  have ende : ∀ g, I2 (W * H) L (stp (W * H) S k) g0 (W * H) g → Ok (j_X9_folds_3 (J L) (J k) (J (- fsh (S.1 ax) (kln k) (kpt k))) (J (fe (S.1 ax) (kln k) - 1 - fsh (S.1 ax) (kln k) (kpt k))) g) (fun z => z.1 = J 1 ∧ (∀ q, q ≠ 9 → q ≠ 10 → z.2 q = g0 q) ∧ (∀ i, i < 64 * (L + 1) → z.2 9 i = g0 9 i) ∧ (∀ i, i < 2 * L + 2 → z.2 10 i = g0 10 i) ∧ H9 (W * H) (stp (W * H) S k) (L + 1) z.2) := by
    intro g hi
    obtain ⟨a1, a2, a3⟩ := hi
    have i1 : (J (2 * (L : Int) + 2 + ax)).toNatClampNeg = 2 * L + 2 + ax := by rw [jcl (by omega)]; omega
    have i2 : (J (2 * (L : Int) + 1 - ax)).toNatClampNeg = 2 * L + (1 - ax) := by rw [jcl (by omega)]; omega
    have i3 : (J (2 * (L : Int) + 3 - ax)).toNatClampNeg = 2 * L + 2 + (1 - ax) := by rw [jcl (by omega)]; omega
    unfold j_X9_folds_3
    simp (disch := omega) only [L2, L1, L3, J_mul, J_add, J_sub, chk_J, cd_ax hk, e]
    rw [i1, i2, i3, Ok_some]
    refine ⟨rfl, fun q h1 h2 => ?_, fun i hi => ?_, fun i hi => ?_, ?_, ?_, fun c hc => ?_⟩
    · funext i
      dsimp only
      rw [sgn h2, sgn h2, a1 q h1]
    · dsimp only
      rw [sgn (by omega), sgn (by omega), a2 i hi]
    · dsimp only
      rw [sgs, if_neg (by omega), sgs, if_neg (by omega), a1 10 (by omega)]
    · rcases (show ax = 0 ∨ ax = 1 by omega) with q | q
      · subst q
        dsimp only
        rw [sgs, if_neg (by omega), sgs, if_pos (by omega), stp0 e]
        exact congrArg J (by show _ = fe _ _; omega)
      · subst q
        dsimp only
        rw [sgs, if_pos (by omega), sgs, if_neg (by omega), a1 10 (by omega), stp1 e]
        exact h.1
    · rcases (show ax = 0 ∨ ax = 1 by omega) with q | q
      · subst q
        dsimp only
        rw [sgs, if_pos (by omega), sgs, if_neg (by omega), a1 10 (by omega), stp0 e]
        exact h.2.1
      · subst q
        dsimp only
        rw [sgs, if_neg (by omega), sgs, if_pos (by omega), stp1 e]
        exact congrArg J (by show _ = fe _ _; omega)
    · dsimp only
      rw [sgn (by omega), sgn (by omega), sgn (by omega), sgn (by omega), sgn (by omega), sgn (by omega), sgn (by omega), sgn (by omega)]
      exact a3 c hc hc
  -- what a cell's layer is
  have lay : ∀ c g, c < W * H → I2 (W * H) L (stp (W * H) S k) g0 c g → f_X9_cells g tr = some (J ((W * H : Nat) : Int)) ∧ f_X9_manyAt g tr (J (64 * L)) (J ax) (J c) (J 1) = some (J (if fgo (S.2 ax) (kln k) (kpt k) c then hh (W * H) (S.2 ax) (S.2 (1 - ax)) (S.2 ax c) (S.2 (1 - ax) c) else hh (W * H) (S.2 ax) (S.2 (1 - ax)) (2 * kln k - 1 - S.2 ax c) (S.2 (1 - ax) c))) ∧
      f_X9_manyAt g tr (J (64 * L)) (J ax) (J c) (J 0) = some (J (if fgo (S.2 ax) (kln k) (kpt k) c then hh (W * H) (S.2 ax) (S.2 (1 - ax)) (2 * kln k - 1 - S.2 ax c) (S.2 (1 - ax) c) else hh (W * H) (S.2 ax) (S.2 (1 - ax)) (S.2 ax c) (S.2 (1 - ax) c))) ∧ g 11 c = J (gB (fgo (S.2 ax) (kln k) (kpt k) c)) ∧ g 9 (64 * L + 32 + c) = J (S.2 2 c) := by
    intro c g hc hi
    obtain ⟨a1, a2, a3⟩ := hi
    have htg : TD W H g := ht.cong (a1 2 (by omega))
    have g1 : G1 (W * H) (S.2 ax) (kln k) (kpt k) g := fun d hd => by rw [a1 11 (by omega), a1 12 (by omega)]; exact h1 d hd
    have hB : ∀ d, d < W * H → g 9 (64 * L + 16 * (1 - ax) + d) = J (S.2 (1 - ax) d) ∧ 0 ≤ S.2 (1 - ax) d ∧ S.2 (1 - ax) d ≤ 50 := fun d hd => ⟨hax9 g a2 d hd, by have := bnd d hd; omega, by have := bnd d hd; omega⟩
    have mg := manyAt_eq (tr := tr) htg hn hL hax g1 fb hB hc (Or.inr rfl)
    have ms := manyAt_eq (tr := tr) htg hn hL hax g1 fb hB hc (Or.inl rfl)
    rw [many_go] at mg
    rw [many_st] at ms
    exact ⟨cells_eq htg, mg, ms, (g1 c hc).1, by rw [a2 _ (by omega)]; exact (h.2.2 c hc).2.2.1⟩
  have i32 : ∀ c : Nat, c < 16 → (J (64 * (L : Int) + 32 + c)).toNatClampNeg = 64 * L + 32 + c := fun c hc => by rw [jcl (by omega)]; omega
  have ho : k / 4 % 2 = 0 ∨ k / 4 % 2 = 1 := by omega
  have iC : ∀ c : Nat, c < 16 → (J (c : Int)).toNatClampNeg = c := fun c hc => by rw [jcl (by omega)]; omega
  have start0 : I2 (W * H) L (stp (W * H) S k) g0 0 g0 := ⟨fun _ _ => rfl, fun _ _ => rfl, fun d hd => by omega⟩
  unfold j_X9_folds_2
  simp (disch := omega) only [L2, L1, cd_ov hk]
  rcases ho with ho | ho
  · have hov : kov k = false := by unfold kov; simp [ho]
    have ne : ¬ J ((k / 4 % 2 : Nat) : Int) = J 1 := by rw [ho, jeq (by omega) (by omega)]; omega
    rw [if_neg ne, show (0 : Int32) = J ((0 : Nat) : Int) from by decide]
    refine Ok_for2 (W * H) (fun c g => I2 (W * H) L (stp (W * H) S k) g0 c g) (fun c g κ hc hi hκ => ?_) (fun g κ hi => ?_) 1000 0 _ (by omega) (by omega) start0
    · obtain ⟨c1, c2, c3, c4, c5⟩ := lay c g hc hi
      have o1 := one false hov c g κ _ hc hi hκ
      unfold s_X9_folds_239
      rw [c1, Option.bind_some, if_neg (by rw [jle (by omega) (by omega)]; omega)]
      simp (disch := omega) only [L64, L32, L1, L0, J_mul, J_add, chk_J, cd_ax hk, e, c2, c3, Option.bind_some, if_true]
      rw [iC c (by omega), c4]
      unfold j_X9_folds_8 j_X9_folds_9
      simp (disch := omega) only [L64, L32, L1, J_mul, J_add, J_sub]
      rw [i32 c (by omega), c5]
      unfold fL at o1
      rw [hov] at o1
      cases hgo : fgo (S.2 ax) (kln k) (kpt k) c
      · rw [hgo] at o1
        simp only [Bool.false_eq_true, if_false] at o1 ⊢
        have ez : J (gB false) = J 0 := rfl
        rw [if_pos ez, J_add]
        exact o1 _ rfl
      · rw [hgo] at o1
        simp only [Bool.false_eq_true, if_false, if_true] at o1 ⊢
        rw [if_neg (by rw [show gB true = 1 from rfl, jeq (by omega) (by omega)]; omega), J_sub]
        exact o1 _ (by omega)
    · unfold s_X9_folds_239
      rw [cells_eq (ht.cong (hi.1 2 (by omega))), Option.bind_some, if_pos (by rw [jle (by omega) (by omega)]; omega)]
      exact ende g hi
  · have hov : kov k = true := by unfold kov; simp [ho]
    have ne : J ((k / 4 % 2 : Nat) : Int) = J 1 := by rw [ho]; rfl
    rw [if_pos ne, show (0 : Int32) = J ((0 : Nat) : Int) from by decide]
    refine Ok_for2 (W * H) (fun c g => I2 (W * H) L (stp (W * H) S k) g0 c g) (fun c g κ hc hi hκ => ?_) (fun g κ hi => ?_) 1000 0 _ (by omega) (by omega) start0
    · obtain ⟨c1, c2, c3, c4, c5⟩ := lay c g hc hi
      have o1 := one true hov c g κ _ hc hi hκ
      have n10 : ¬ J 1 = J 0 := by rw [jeq (by omega) (by omega)]; omega
      unfold s_X9_folds_239q
      rw [c1, Option.bind_some, if_neg (by rw [jle (by omega) (by omega)]; omega)]
      simp (disch := omega) only [L64, L32, L1, L0, J_mul, J_add, chk_J, cd_ax hk, e, c2, c3, Option.bind_some]
      rw [iC c (by omega), c4, if_neg n10, if_neg n10, j15, j16]
      unfold j_X9_folds_8 j_X9_folds_9
      simp (disch := omega) only [L64, L32, L1, J_mul, J_add, J_sub]
      rw [i32 c (by omega), c5]
      unfold fL at o1
      rw [hov] at o1
      cases hgo : fgo (S.2 ax) (kln k) (kpt k) c
      · rw [hgo] at o1
        simp only [Bool.false_eq_true, if_false, if_true] at o1 ⊢
        have ez : J (gB false) = J 0 := rfl
        rw [if_pos ez, J_add]
        exact o1 _ rfl
      · rw [hgo] at o1
        simp only [Bool.false_eq_true, if_false, if_true] at o1 ⊢
        rw [if_neg (by rw [show gB true = 1 from rfl, jeq (by omega) (by omega)]; omega), J_sub]
        exact o1 _ (by omega)
    · unfold s_X9_folds_239q
      rw [cells_eq (ht.cong (hi.1 2 (by omega))), Option.bind_some, if_pos (by rw [jle (by omega) (by omega)]; omega), j10]
      exact ende g hi
theorem folds_ok {W H : Nat} {S : St} {μ : Sg} {tr : Int64} (hn : W * H ≤ 16) (w : WF (W * H) S) (ht : TD W H μ) {L k : Nat} (hL : L ≤ 2) (h : H9 (W * H) S L μ) (hk : k < 24) :
    Ok (f_X9_folds μ tr (J L) (J k)) (fun z => FR L μ z.2 ∧ ((vl S k ∧ z.1 = J 1 ∧ H9 (W * H) (stp (W * H) S k) (L + 1) z.2) ∨ (¬ vl S k ∧ z.1 = J 0 ∧ z.2 = μ))) := by
  have hl := kln_bd hk
  have w2 := w.2.1
  have w3 := w.2.2.1
  have hax : k % 2 < 2 := by omega
  have i1 : (J (2 * (L : Int) + ((k % 2 : Nat) : Int))).toNatClampNeg = 2 * L + k % 2 := by rw [jcl (by omega)]; omega
  have h10 : μ 10 (2 * L + k % 2) = J (S.1 (k % 2)) := by
    rcases Nat.mod_two_eq_zero_or_one k with q | q <;> rw [q]
    · exact h.1
    · exact h.2.1
  have bs : 1 ≤ S.1 (k % 2) ∧ S.1 (k % 2) ≤ 4 := by
    rcases Nat.mod_two_eq_zero_or_one k with q | q <;> rw [q] <;> assumption
  unfold f_X9_folds
  simp (disch := omega) only [L2, L1, L0, L8, J_mul, J_add, chk_J, cd_ax hk, cd_dv hk]
  rw [i1, h10]
  by_cases v : vl S k
  · have v' : J (kln k) < J (S.1 (k % 2)) := (jlt (by omega) (by omega)).mpr v
    rw [if_pos v']
    have key : Ok (j_X9_folds_1 μ tr (J L) (J k) (J ((16 * (k % 2) : Nat) : Int))) (fun z => FR L μ z.2 ∧ ((vl S k ∧ z.1 = J 1 ∧ H9 (W * H) (stp (W * H) S k) (L + 1) z.2) ∨ (¬ vl S k ∧ z.1 = J 0 ∧ z.2 = μ))) := by
      have go : ∀ g : Sg, (∀ q, q ≠ 11 → q ≠ 12 → g q = μ q) → G1 (W * H) (S.2 (k % 2)) (kln k) (kpt k) g → Ok (j_X9_folds_2 tr (J L) (J k) (J ((16 * (k % 2) : Nat) : Int)) (J (- fsh (S.1 (k % 2)) (kln k) (kpt k))) (J (fe (S.1 (k % 2)) (kln k) - 1 - fsh (S.1 (k % 2)) (kln k) (kpt k))) g) (fun z => FR L μ z.2 ∧ ((vl S k ∧ z.1 = J 1 ∧ H9 (W * H) (stp (W * H) S k) (L + 1) z.2) ∨ (¬ vl S k ∧ z.1 = J 0 ∧ z.2 = μ))) := by
        intro g hq hg
        have h' : H9 (W * H) S L g := by
          unfold H9
          rw [hq 10 (by omega) (by omega), hq 9 (by omega) (by omega)]
          exact h
        refine (folds2_ok hn w (ht.cong (hq 2 (by omega) (by omega))) hL h' hk hax rfl v hg).mono (fun z hz => ?_)
        obtain ⟨z1, z2, z3, z4, z5⟩ := hz
        refine ⟨⟨fun q q1 q2 q3 q4 => by rw [z2 q q1 q2, hq q q3 q4], fun i hi => by rw [z3 i hi, hq 9 (by omega) (by omega)], fun i hi => by rw [z4 i hi, hq 10 (by omega) (by omega)]⟩, Or.inl ⟨v, z1, z5⟩⟩
      unfold j_X9_folds_1
      rw [L100, J_neg, L0]
      rcases Nat.mod_two_eq_zero_or_one k with q | q
      · rw [q] at go ⊢
        exact folds1_0 hn w ht hL h hk q v go
      · rw [q] at go ⊢
        exact folds1_1 hn w ht hL h hk q v go
    rcases Nat.mod_two_eq_zero_or_one k with q | q
    · rw [q] at key ⊢
      have ez : J ((0 : Nat) : Int) = J 0 := rfl
      rw [if_pos ez]
      exact key
    · rw [q] at key ⊢
      have ne : ¬ J ((1 : Nat) : Int) = J 0 := by rw [jeq (by omega) (by omega)]; omega
      rw [if_neg ne]
      exact key
  · have v' : ¬ J (kln k) < J (S.1 (k % 2)) := fun q => v ((jlt (by omega) (by omega)).mp q)
    rw [if_neg v', Ok_some]
    exact ⟨⟨fun _ _ _ _ _ => rfl, fun _ _ => rfl, fun _ _ => rfl⟩, Or.inr ⟨v, rfl, rfl⟩⟩
