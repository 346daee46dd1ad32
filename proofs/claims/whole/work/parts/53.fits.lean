/-! fits -/
theorem fitsAt_eq {n : Nat} {S : St} {L : Nat} {μ : Sg} {tr : Int64} (w : WF n S) (hL : L ≤ 3) (h : H9 n S L μ) {ms : Nat} {sa sb : Nat → Nat} (hms : ms ≤ 6) (h10 : μ 0 10 = J ms) (hs : ∀ i, i < ms → μ 7 i = J (sa i) ∧ μ 8 i = J (sb i) ∧ sa i < n ∧ sb i < n) : f_X9_fitsAt μ tr (J L) = some (J (if allT sa sb S.2 ms then 1 else 0)) := by
  rw [← Ok_eqs]
  unfold f_X9_fitsAt
  rw [show (0 : Int32) = J ((0 : Nat) : Int) from by decide +kernel]
  refine Ok_for2r ms (fun k x => x = J (if allT sa sb S.2 k then 1 else 0)) (fun k x κ hk hi hκ => ?_) (fun x κ hi => ?_) 1000 0 _ (by omega) (by omega) L1
  · subst hi
    obtain ⟨s1, s2, s3, s4⟩ := hs k hk
    have htr := tcP_range S.2 (sa k) (sb k)
    have ik : (J (k : Int)).toNatClampNeg = k := by rw [jcl (by omega)]; omega
    unfold s_X9_fitsAt_4
    simp (disch := omega) only [h10, L0, L1, J_add, chk_J, ik, s1, s2, touches_eq w hL h s3 s4, Option.bind_some]
    rw [if_neg (by rw [jle (by omega) (by omega)]; omega)]
    cases ha : allT sa sb S.2 k
    · have ez : J (if false = true then 1 else 0) = J 0 := rfl
      rw [if_pos ez]
      refine hκ _ ?_
      unfold allT; rw [ha]; rfl
    · rw [if_neg (by rw [if_pos rfl, jeq (by omega) (by omega)]; omega)]
      by_cases q : tcP S.2 (sa k) (sb k) ≤ 0
      · rw [if_pos (by rw [jle (by omega) (by omega)]; exact q)]
        refine hκ _ ?_
        unfold allT; rw [ha]
        rw [show decide (¬ tcP S.2 (sa k) (sb k) = 0) = false from by simp; omega]
        rfl
      · rw [if_neg (by rw [jle (by omega) (by omega)]; exact q)]
        refine hκ _ ?_
        unfold allT; rw [ha]
        rw [show decide (¬ tcP S.2 (sa k) (sb k) = 0) = true from by simp; omega]
        rfl
  · unfold s_X9_fitsAt_4 j_X9_fitsAt_1
    rw [h10, if_pos (by rw [jle (by omega) (by omega)]; omega), hi]
    cases ha : allT sa sb S.2 ms
    · rw [if_pos (by decide +kernel), Ok_some]; decide +kernel
    · rw [if_neg (by decide +kernel), Ok_some]; decide +kernel
