theorem sum24 (f : Nat → Nat) : (((a24.map f).sum : Nat) : Int) = sumI (fun k => ((f k : Nat) : Int)) 24 := by
  rw [sum_a24]
  simp only [sumI]
  omega
theorem cF_succ (n : Nat) (T : Pk → Bool) (ks : List Nat) (m : Nat) (S : St) : cF n T ks (m + 1) S = (ks.map (fun k => if vl S k then cF n T ks m (stp n S k) else 0)).sum := by rw [cF]
theorem fits9_ok {W H : Nat} {S : St} {g : Sg} {tr : Int64} (hn : W * H ≤ 16) (w : WF (W * H) S) (ht : TD W H g) (h9 : H9 (W * H) S 0 g) {ms : Nat} {sa sb : Nat → Nat} (hms : ms ≤ 6) (h10 : g 0 10 = J ms) (hs : ∀ i, i < ms → g 7 i = J (sa i) ∧ g 8 i = J (sb i) ∧ sa i < W * H ∧ sb i < W * H) {m : Nat} (hm : m ≤ 1) :
    Ok (lc3 (s_X9_fits_31 tr (J ((m + 1 : Nat) : Int))) 1000 (J 0) (J 0) g) (fun z => FR 0 g z.2 ∧ z.1 = J ((cF (W * H) (fun P => allT sa sb P ms) a24 (m + 1) S : Nat) : Int)) := by
  have fat : ∀ (L : Nat) (S' : St) (g' : Sg), L ≤ 3 → WF (W * H) S' → H9 (W * H) S' L g' → (∀ q, q ≠ 9 → q ≠ 10 → q ≠ 11 → q ≠ 12 → g' q = g q) → f_X9_fitsAt g' tr (J L) = some (J (if allT sa sb S'.2 ms then 1 else 0)) := by
    intro L S' g' hL w' h' hq
    refine fitsAt_eq w' hL h' hms (by rw [hq 0 (by omega) (by omega) (by omega) (by omega)]; exact h10) (fun i hi => ?_)
    rw [hq 7 (by omega) (by omega) (by omega) (by omega), hq 8 (by omega) (by omega) (by omega) (by omega)]
    exact hs i hi
  have hsum : ((cF (W * H) (fun P => allT sa sb P ms) a24 (m + 1) S : Nat) : Int) = sumI (fun k => (((if vl S k then cF (W * H) (fun P => allT sa sb P ms) a24 m (stp (W * H) S k) else 0) : Nat) : Int)) 24 := by
    rw [← sum24]
    exact congrArg (fun x : Nat => (x : Int)) (cF_succ _ _ _ _ _)
  rw [hsum]
  rw [show (J 0) = J ((0 : Nat) : Int) from rfl]
  refine Ok_for3 24 (fun one x g' => FR 0 g g' ∧ x = J (sumI (fun k => (((if vl S k then cF (W * H) (fun P => allT sa sb P ms) a24 m (stp (W * H) S k) else 0) : Nat) : Int)) one)) (fun one x g' κ h1 hi hκ => ?_) (fun x g' κ hi => ?_) 1000 0 _ _ (by omega) (by omega) ⟨FR.refl 0 g, rfl⟩
  · obtain ⟨i1, hx⟩ := hi
    subst hx
    rw [sumI_succ] at hκ
    generalize sumI (fun k => (((if vl S k then cF (W * H) (fun P => allT sa sb P ms) a24 m (stp (W * H) S k) else 0) : Nat) : Int)) one = acc at *
    unfold s_X9_fits_31
    rw [if_neg (by rw [L24, jle (by omega) (by omega)]; omega), if_neg (by rw [L0, jle (by omega) (by omega)]; omega), Ok_bind, show (0 : Int32) = J ((0 : Nat) : Int) from by decide +kernel]
    refine (folds_ok hn w (i1.td ht) (by omega) (i1.h9 (Nat.le_refl 0) hn h9) h1).mono (fun z hz => ?_)
    obtain ⟨r, hz⟩ := hz
    rcases hz with ⟨v, z1, z2⟩ | ⟨v, z1, z2⟩
    · have nz : ¬ z.1 = J ((0 : Nat) : Int) := by rw [z1, jeq (by omega) (by omega)]; omega
      rw [if_neg nz]
      rcases (show m = 0 ∨ m = 1 by omega) with e | e
      · subst e
        rw [if_pos (by decide +kernel), show (1 : Int32) = J ((1 : Nat) : Int) from by decide +kernel, fat 1 _ z.2 (by omega) (w.fd v) z2 (i1.trans r).1, Option.bind_some]
        unfold j_X9_fits_1
        rw [show (1000 : Nat) = 999 + 1 from rfl]
        show Ok (s_X9_fits_74 _ _ _ _ _ _ _ _ _) _
        unfold s_X9_fits_74
        rw [if_neg (by decide +kernel), if_neg (by rw [z1]; decide +kernel), if_neg (by decide +kernel), J_add, L1, J_add]
        refine hκ _ _ ⟨i1.trans r, ?_⟩
        refine congrArg J ?_
        show _ = acc + (((if vl S one then (if allT sa sb (stp (W * H) S one).2 ms then 1 else 0) else 0) : Nat) : Int)
        rw [if_pos v]
        cases allT sa sb (stp (W * H) S one).2 ms <;> rfl
      · subst e
        rw [if_neg (by decide +kernel)]
        unfold j_X9_fits_1
        have hsum1 : (((if vl S one then cF (W * H) (fun P => allT sa sb P ms) a24 1 (stp (W * H) S one) else 0) : Nat) : Int) = sumI (fun k => (((if vl (stp (W * H) S one) k then cF (W * H) (fun P => allT sa sb P ms) a24 0 (stp (W * H) (stp (W * H) S one) k) else 0) : Nat) : Int)) 24 := by
          rw [if_pos v, ← sum24]
          exact congrArg (fun x : Nat => (x : Int)) (cF_succ _ _ _ _ _)
        rw [hsum1] at hκ
        rw [show J acc + J ((0 : Nat) : Int) = J acc from by rw [J_add]; exact congrArg J (by omega)]
        refine Ok_for3 24 (fun two x g'' => FR 0 g g'' ∧ H9 (W * H) (stp (W * H) S one) 1 g'' ∧ x = J (acc + sumI (fun k => (((if vl (stp (W * H) S one) k then cF (W * H) (fun P => allT sa sb P ms) a24 0 (stp (W * H) (stp (W * H) S one) k) else 0) : Nat) : Int)) two)) (fun two x g'' κ' h2 hj hκ' => ?_) (fun x g'' κ' hj => ?_) 1000 0 _ _ (by omega) (by omega) ⟨i1.trans r, z2, congrArg J (by show acc = acc + 0; omega)⟩
        · obtain ⟨j1, j2, hx⟩ := hj
          subst hx
          rw [sumI_succ] at hκ'
          unfold s_X9_fits_74
          rw [if_neg (by rw [L24, jle (by omega) (by omega)]; omega), if_neg (by rw [z1]; decide +kernel), if_pos (by decide +kernel), Ok_bind, show (1 : Int32) = J ((1 : Nat) : Int) from by decide +kernel]
          refine (folds_ok hn (w.fd v) (j1.td ht) (by omega) j2 h2).mono (fun y hy => ?_)
          obtain ⟨r', hy⟩ := hy
          have fy : FR 0 g y.2 := j1.trans (r'.down (by omega))
          rcases hy with ⟨v2, y1, y2⟩ | ⟨v2, y1, y2⟩
          · rw [if_neg (by rw [y1]; decide +kernel), show (2 : Int32) = J ((2 : Nat) : Int) from by decide +kernel, fat 2 _ y.2 (by omega) ((w.fd v).fd v2) y2 fy.1, Option.bind_some]
            unfold j_X9_fits_2
            rw [J_add, L1, J_add]
            refine hκ' _ _ ⟨fy, r'.h9 (Nat.le_refl 1) hn j2, ?_⟩
            refine congrArg J ?_
            rw [if_pos v2]
            show _ = acc + (_ + (((if allT sa sb (stp (W * H) (stp (W * H) S one) two).2 ms then 1 else 0) : Nat) : Int))
            cases allT sa sb (stp (W * H) (stp (W * H) S one) two).2 ms <;> simp <;> omega
          · rw [if_pos (by rw [y1, L0])]
            unfold j_X9_fits_2
            rw [L0, J_add, L1, J_add]
            refine hκ' _ _ ⟨fy, r'.h9 (Nat.le_refl 1) hn j2, ?_⟩
            refine congrArg J ?_
            rw [if_neg v2]
            simp
        · obtain ⟨j1, j2, hx⟩ := hj
          unfold s_X9_fits_74
          rw [if_pos (by decide +kernel), hx, L1, J_add]
          exact hκ _ _ ⟨j1, rfl⟩
    · rw [if_pos (show z.1 = J ((0 : Nat) : Int) from z1)]
      unfold j_X9_fits_1
      rw [show (1000 : Nat) = 999 + 1 from rfl]
      show Ok (s_X9_fits_74 _ _ _ _ _ _ _ _ _) _
      unfold s_X9_fits_74
      rw [if_neg (by decide +kernel), if_pos (by rw [z1, L0]), J_add, L1, J_add]
      refine hκ _ _ ⟨i1.trans r, ?_⟩
      refine congrArg J ?_
      rw [if_neg v]
  · obtain ⟨i1, hx⟩ := hi
    unfold s_X9_fits_31
    rw [if_pos (by decide +kernel), Ok_some]
    exact ⟨i1, hx⟩
