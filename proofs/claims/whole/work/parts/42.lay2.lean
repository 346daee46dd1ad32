/-! ===== the class's plans: laid, found, best, counted ===== -/
def LIv (n : Nat) (S : St) (m p : Nat) (g : Sg) : Prop := m = 2 → ¬ p % 12 = 0 → g 0 4 = J (if vl S (kc (p / 12)) then 1 else 0) ∧ (vl S (kc (p / 12)) → HP n (stp n S (kc (p / 12))) (sg_off g 10) ∧ g 2 0 = J (kc (p / 12)))
def LPo (n : Nat) (S : St) (m p : Nat) (g : Sg) (z : Int32 × Sg) : Prop := HP n S (sg_off z.2 4) ∧ LIv n S m (p + 1) z.2 ∧ z.2 0 0 = g 0 0 ∧ z.2 1 = g 1 ∧
  ((∃ S', PLs n S m p = some S' ∧ z.1 = J 1 ∧ HP n S' (sg_off z.2 (4 + 6 * m)) ∧ ∀ i, i < m → z.2 2 i = J ((rw_ m p).getD i 0)) ∨ (PLs n S m p = none ∧ z.1 = J 0))
theorem PLs_wf {n : Nat} {S S' : St} {m p : Nat} (w : WF n S) (h : PLs n S m p = some S') : WF n S' := by
  unfold PLs at h
  split at h
  · cases h; exact w
  · split at h
    · split at h
      · next v => cases h; exact w.fd v
      · cases h
    · split at h
      · next v =>
        split at h
        · next v2 => cases h; exact (w.fd v).fd v2
        · cases h
      · cases h
theorem cbl0 {R : Type} {k : Option R} : cbl (J 0) k = k := by
  unfold cbl; rw [if_pos (Or.inl (by decide))]
theorem cbl1 {R : Type} {k : Option R} : cbl (J 1) k = k := by
  unfold cbl; rw [if_pos (Or.inr (by decide))]
theorem lay1_ok {n : Nat} {S : St} {g : Sg} (w : WF n S) {p : Nat} (hp : p < 144) (h : HP n S (sg_off g 4)) (h4 : g 0 4 = J (if vl S (kc (p / 12)) then 1 else 0)) (hv : vl S (kc (p / 12)) → HP n (stp n S (kc (p / 12))) (sg_off g 10) ∧ g 2 0 = J (kc (p / 12))) : Ok (j_X5_lay_1 (J p) g) (fun z => LPo n S 2 p g z) := by
  have e1 : J p / J 12 = J ((p / 12 : Nat) : Int) := J_div (b := 12) (by omega) (by omega) (by omega)
  have e2 : J ((p : Int) - ((p / 12 : Nat) : Int) * 12) = J ((p % 12 : Nat) : Int) := congrArg J (by omega)
  have hnx : ¬ (p + 1) % 12 = 0 → (p + 1) / 12 = p / 12 := by omega
  have hP : PLs n S 2 p = (if vl S (kc (p / 12)) then (if vl (stp n S (kc (p / 12))) (kc (p % 12)) then some (stp n (stp n S (kc (p / 12))) (kc (p % 12))) else none) else none) := rfl
  by_cases v : vl S (kc (p / 12))
  · obtain ⟨h10, h20⟩ := hv v
    rw [if_pos v] at h4 hP
    simp (disch := omega) only [j_X5_lay_1, L0, L1, L2, L3, L4, L5, L6, L7, L8, L9, L10, L11, L12, L16, L21, L22, L24, L28, L32, L35, L40, L48, L57, L59, L64, L97, L100, L122, L200, L1000000, chk_J, jlt, jle, jeq, jcl, J_add, J_sub, J_mul, J_neg, Int.toNat_natCast, Option.bind_some, sgs, sgn, if_true, if_false, Int.toNat_zero, Int.toNat_one, h4, e1, e2]
    rw [if_neg (by omega), Ok_bind]
    refine (layFold1_ok (w.fd v) h10 (show p % 12 < 12 by omega)).mono (fun z hz => ?_)
    rcases hz with ⟨v2, hz1, hz2, hz3, hz4, hz5⟩ | ⟨v2, hz⟩
    · rw [if_pos v2] at hP
      have n1 : ¬ z.1 = J 0 := by rw [hz1, jeq (by omega) (by omega)]; omega
      rw [if_neg n1, Ok_some]
      refine ⟨h.cong (fun q hq => by unfold sg_off; exact hz5 _ (by omega) (by omega)), fun _ hq => ?_, by dsimp only; rw [hz5 0 (by omega) (by omega)], by dsimp only; rw [hz5 1 (by omega) (by omega)], Or.inl ⟨_, hP, rfl, hz2, fun i hi => ?_⟩⟩
      · rw [hnx hq]
        refine ⟨by dsimp only; rw [hz5 0 (by omega) (by omega), h4, if_pos v], fun _ => ⟨h10.cong (fun q hq => by unfold sg_off; exact hz5 _ (by omega) (by omega)), by dsimp only; rw [hz4 0 (by omega), h20]⟩⟩
      · rcases (show i = 0 ∨ i = 1 by omega) with e | e
        · subst e; dsimp only; rw [hz4 0 (by omega), h20]; rfl
        · subst e; dsimp only; rw [hz3]; rfl
    · rw [if_neg v2] at hP
      subst hz
      simp only [if_true, Ok_some]
      refine ⟨h, fun _ hq => ?_, rfl, rfl, Or.inr ⟨hP, rfl⟩⟩
      rw [hnx hq]
      exact ⟨by dsimp only; rw [h4, if_pos v], fun _ => ⟨h10, h20⟩⟩
  · rw [if_neg v] at h4 hP
    simp (disch := omega) only [j_X5_lay_1, L0, L1, L2, L3, L4, L5, L6, L7, L8, L9, L10, L11, L12, L16, L21, L22, L24, L28, L32, L35, L40, L48, L57, L59, L64, L97, L100, L122, L200, L1000000, chk_J, jlt, jle, jeq, jcl, J_add, J_sub, J_mul, J_neg, Int.toNat_natCast, Option.bind_some, sgs, sgn, if_true, if_false, Int.toNat_zero, Int.toNat_one, h4, Ok_some]
    refine ⟨h, fun _ hq => ?_, rfl, rfl, Or.inr ⟨hP, rfl⟩⟩
    rw [hnx hq]
    exact ⟨by dsimp only; rw [h4, if_neg v], fun q => absurd q v⟩
theorem lay_ok {n : Nat} {S : St} {g : Sg} (w : WF n S) {m p : Nat} (hm : m ≤ 2) (hp : p < plN m) (h : HP n S (sg_off g 4)) (hl : LIv n S m p g) : Ok (f_X5_lay g (J m) (J p)) (fun z => LPo n S m p g z) := by
  rcases (show m = 0 ∨ m = 1 ∨ m = 2 by omega) with e | e | e
  · subst e
    simp (disch := omega) only [f_X5_lay, L0, L1, L2, L3, L4, L5, L6, L7, L8, L9, L10, L11, L12, L16, L21, L22, L24, L28, L32, L35, L40, L48, L57, L59, L64, L97, L100, L122, L200, L1000000, chk_J, jlt, jle, jeq, jcl, J_add, J_sub, J_mul, J_neg, Int.toNat_natCast, Option.bind_some, sgs, sgn, if_true, if_false, Int.toNat_zero, Int.toNat_one]
    rw [if_pos (by omega), Ok_some]
    exact ⟨h, fun q => by omega, rfl, rfl, Or.inl ⟨S, rfl, rfl, h, fun i hi => by omega⟩⟩
  · subst e
    simp (disch := omega) only [f_X5_lay, L0, L1, L2, L3, L4, L5, L6, L7, L8, L9, L10, L11, L12, L16, L21, L22, L24, L28, L32, L35, L40, L48, L57, L59, L64, L97, L100, L122, L200, L1000000, chk_J, jlt, jle, jeq, jcl, J_add, J_sub, J_mul, J_neg, Int.toNat_natCast, Option.bind_some, sgs, sgn, if_true, if_false, Int.toNat_zero, Int.toNat_one]
    rw [if_neg (by omega), if_pos (by omega), Ok_bind]
    refine (layFold0_ok w h hp).mono (fun z hz => ?_)
    have hP : PLs n S 1 p = (if vl S (kc p) then some (stp n S (kc p)) else none) := rfl
    rcases hz with ⟨v2, hz1, hz2, hz3, hz4, hz5⟩ | ⟨v2, hz⟩
    · rw [if_pos v2] at hP
      rw [hz1, cbl1, Ok_some]
      refine ⟨h.cong (fun q hq => by unfold sg_off; exact hz5 _ (by omega) (by omega)), fun q => by omega, by dsimp only; rw [hz5 0 (by omega) (by omega)], by dsimp only; rw [hz5 1 (by omega) (by omega)], Or.inl ⟨_, hP, rfl, hz2, fun i hi => ?_⟩⟩
      have e : i = 0 := by omega
      subst e
      exact hz3
    · rw [if_neg v2] at hP
      subst hz
      simp only [cbl0, Ok_some]
      exact ⟨h, fun q => by omega, rfl, rfl, Or.inr ⟨hP, rfl⟩⟩
  · subst e
    have hp : p < 144 := hp
    have e1 : J p / J 12 = J ((p / 12 : Nat) : Int) := J_div (b := 12) (by omega) (by omega) (by omega)
    have e2 : J ((p : Int) - ((p / 12 : Nat) : Int) * 12) = J ((p % 12 : Nat) : Int) := congrArg J (by omega)
    simp (disch := omega) only [f_X5_lay, L0, L1, L2, L3, L4, L5, L6, L7, L8, L9, L10, L11, L12, L16, L21, L22, L24, L28, L32, L35, L40, L48, L57, L59, L64, L97, L100, L122, L200, L1000000, chk_J, jlt, jle, jeq, jcl, J_add, J_sub, J_mul, J_neg, Int.toNat_natCast, Option.bind_some, sgs, sgn, if_true, if_false, Int.toNat_zero, Int.toNat_one, e1, e2]
    rw [if_neg (by omega), if_neg (by omega)]
    by_cases q : p % 12 = 0
    · rw [if_pos (by omega), Ok_bind]
      refine (layFold0_ok w h (show p / 12 < 12 by omega)).mono (fun z hz => ?_)
      rcases hz with ⟨v2, hz1, hz2, hz3, hz4, hz5⟩ | ⟨v2, hz⟩
      · rw [hz1, cbl1]
        refine (lay1_ok w hp (g := sg_st z.2 0 4 (J 1)) ?_ ?_ (fun _ => ⟨?_, ?_⟩)).mono (fun z' hz' => ?_)
        · exact h.cong (fun q hq => by funext i; rw [sof, sof, sgn (by omega), hz5 _ (by omega) (by omega)])
        · rw [sgs, if_pos rfl, if_pos v2]
        · exact hz2.cong (fun q hq => by funext i; rw [sof, sof, sgn (by omega)])
        · rw [sgn (by omega), hz3]
        · obtain ⟨k1, k2, k3, k4, k5⟩ := hz'
          refine ⟨k1, k2, ?_, ?_, k5⟩
          · rw [k3, sgs, if_neg (by omega), hz5 0 (by omega) (by omega)]
          · rw [k4]; funext i; rw [sgn (by omega), hz5 1 (by omega) (by omega)]
      · subst hz
        simp only [cbl0]
        refine (lay1_ok w hp (g := sg_st g 0 4 (J 0)) ?_ ?_ (fun v => absurd v v2)).mono (fun z' hz' => ?_)
        · exact h.cong (fun q hq => by funext i; rw [sof, sof, sgn (by omega)])
        · rw [sgs, if_pos rfl, if_neg v2]
        · obtain ⟨k1, k2, k3, k4, k5⟩ := hz'
          refine ⟨k1, k2, ?_, ?_, k5⟩
          · rw [k3, sgs, if_neg (by omega)]
          · rw [k4]; funext i; rw [sgn (by omega)]
    · rw [if_neg (by omega)]
      obtain ⟨a1, a2⟩ := hl rfl q
      exact lay1_ok w hp h a1 a2
theorem note_eq {σ : Sg} {m : Nat} (hm : m ≤ 2) : f_X5_noteFound σ (J m) = some (sg_st (sg_ar σ 1 (fun k => if k < m then σ 2 k else σ 1 k)) 0 0 (J m)) := by
  unfold f_X5_noteFound
  rw [L0, ccp_J (by omega), jcl (by omega), jcl (by omega)]
  congr 4
  funext k
  unfold va_cpy
  by_cases q : k < m
  · rw [if_pos (by omega), if_pos q]; congr 1; omega
  · rw [if_neg (by omega), if_neg q]
theorem start_ok {n : Nat} {S : St} {σ τ : Sg} (hn : n ≤ 16) (h : HP n S τ) : Ok (f_X5_startFrom σ τ) (fun z => HP n S (sg_off z 4) ∧ z 0 0 = J 0) := by
  unfold f_X5_startFrom
  rw [Ok_bind]
  refine (copy_ok hn h).mono (fun z1 hz1 => ?_)
  rw [Ok_some]
  refine ⟨(HP.sp (σ := σ) hz1 4 6 (by omega)).cong (fun q hq => by funext i; rw [sof, sof, sgn (by omega)]), ?_⟩
  rw [sgs, if_pos rfl, L0]
theorem foundFold_eq {z : Sg} {m : Nat} {row : List Nat} (hm : m ≤ 3) (h0 : z 0 0 = J m) (h1 : ∀ i, i < m → z 1 i = J (row.getD i 0)) {i : Int} (hi : -2147483648 ≤ i ∧ i ≤ 2147483647) : f_X5_foundFold z (J i) = some (J (if 0 ≤ i ∧ i < m then ((row.getD i.toNat 0 : Nat) : Int) else -5)) := by
  simp (disch := omega) only [f_X5_foundFold, L0, L1, L2, L3, L4, L5, L6, L7, L8, L9, L10, L11, L12, L16, L21, L22, L24, L28, L32, L35, L40, L48, L57, L59, L64, L97, L100, L122, L200, L1000000, chk_J, jlt, jle, jeq, jcl, J_add, J_sub, J_mul, J_neg, Int.toNat_natCast, Option.bind_some, sgs, sgn, if_true, if_false, Int.toNat_zero, Int.toNat_one, h0]
  by_cases q : 0 ≤ i ∧ i < m
  · rw [if_neg (by omega), if_neg (by omega), if_neg (by omega), if_pos q, h1 _ (by omega)]
  · rw [if_neg q]
    by_cases q1 : i < 0
    · rw [if_pos q1]
    · rw [if_neg q1, if_pos (by omega)]
/-- the stage of a plan's end, asked -/
theorem findMeeting_ok {n : Nat} {S : St} {σ : Sg} (w : WF n S) (h : HP n S (sg_off σ 4)) (h0 : σ 0 0 = J 0) {a b : Nat} (ha : a < n) (hb : b < n) :
    Ok (f_X5_findMeeting σ (J a) (J b)) (fun z => (∃ m row, m ≤ 3 ∧ (∀ m', m' < m → rS n (T1 a b) p12 m' S = none) ∧ rS n (T1 a b) p12 m S = some row ∧ z.1 = J 1 ∧ z.2 0 0 = J m ∧ ∀ i, i < m → z.2 1 i = J (row.getD i 0)) ∨ ((∀ m, m ≤ 3 → rS n (T1 a b) p12 m S = none) ∧ z.1 = J 0)) := by
  have ht := tcP_range S.2 a b
  simp (disch := omega) only [f_X5_findMeeting, L0, L1, L2, L3, L4, L5, L6, L7, L8, L9, L10, L11, L12, L16, L21, L22, L24, L28, L32, L35, L40, L48, L57, L59, L64, L97, L100, L122, L200, L1000000, chk_J, jlt, jle, jeq, jcl, J_add, J_sub, J_mul, J_neg, Int.toNat_natCast, Option.bind_some, sgs, sgn, if_true, if_false, Int.toNat_zero, Int.toNat_one, touching_eq w h ha hb]
  by_cases q : tcP S.2 a b = 1
  · rw [if_pos q, Ok_some]
    refine Or.inl ⟨0, [], by omega, fun m' hm' => by omega, ?_, rfl, h0, fun i hi => by omega⟩
    unfold rS
    rw [if_pos (by unfold T1; simp [q])]
  · rw [if_neg q]
    have r0 : rS n (T1 a b) p12 0 S = none := by
      unfold rS
      rw [if_neg (by unfold T1; simp [q])]
    have up : ∀ m, (∀ m', m' < m → rM n a b m' S = none) → ∀ m', m' ≤ m → rS n (T1 a b) p12 m' S = none := by
      intro m
      induction m with
      | zero => intro _ m' hm'; rw [show m' = 0 by omega]; exact r0
      | succ m ih =>
        intro hx m' hm'
        have ih := ih (fun m' h => hx m' (by omega))
        rcases Nat.lt_or_ge m m' with g | g
        · rw [show m' = m + 1 by omega, ← rM_eq ha hb m S w (ih m (Nat.le_refl m))]
          exact hx m (by omega)
        · exact ih m' g
    rw [show J 0 = J ((0 : Nat) : Int) from rfl]
    refine Ok_for2 3 (fun m g => HP n S (sg_off g 4) ∧ g 0 0 = J 0 ∧ ∀ m', m' < m → rM n a b m' S = none) (fun m g κ hm hi hκ => ?_) (fun g κ hi => ?_) 1000 0 _ (by omega) (by omega) ⟨h, h0, fun m' hm' => by omega⟩
    · obtain ⟨i1, i2, i3⟩ := hi
      simp (disch := omega) only [s_X5_findMeeting_19, L0, L1, L2, L3, L4, L5, L6, L7, L8, L9, L10, L11, L12, L16, L21, L22, L24, L28, L32, L35, L40, L48, L57, L59, L64, L97, L100, L122, L200, L1000000, chk_J, jlt, jle, jeq, jcl, J_add, J_sub, J_mul, J_neg, Int.toNat_natCast, Option.bind_some, sgs, sgn, if_true, if_false, Int.toNat_zero, Int.toNat_one]
      rw [if_neg (by omega), show J 0 = J ((0 : Nat) : Int) from rfl]
      have hpl : plN m ≤ 144 := by unfold plN; (repeat' split) <;> omega
      refine Ok_for2 (plN m) (fun p g => HP n S (sg_off g 4) ∧ g 0 0 = J 0 ∧ LIv n S m p g ∧ ∀ p', p' < p → Fp n (fun S => (mt n a b S).map ([·])) S m p' = none) (fun p g κ' hp hj hκ' => ?_) (fun g κ' hj => ?_) 1000 0 _ (by omega) (by omega) ⟨i1, i2, fun _ q => by omega, fun p' hp' => by omega⟩
      · obtain ⟨j1, j2, j3, j4⟩ := hj
        simp (disch := omega) only [s_X5_findMeeting_27, L0, L1, L2, L3, L4, L5, L6, L7, L8, L9, L10, L11, L12, L16, L21, L22, L24, L28, L32, L35, L40, L48, L57, L59, L64, L97, L100, L122, L200, L1000000, chk_J, jlt, jle, jeq, jcl, J_add, J_sub, J_mul, J_neg, Int.toNat_natCast, Option.bind_some, sgs, sgn, if_true, if_false, Int.toNat_zero, Int.toNat_one, plans_eq (show m ≤ 2 by omega)]
        rw [if_neg (by omega), Ok_bind]
        refine (lay_ok w (by omega) hp j1 j3).mono (fun z hz => ?_)
        obtain ⟨k1, k2, k3, k4, k5⟩ := hz
        have nx : Fp n (fun S => (mt n a b S).map ([·])) S m p = none → ∀ p', p' < p + 1 → Fp n (fun S => (mt n a b S).map ([·])) S m p' = none := by
          intro hx p' hp'
          by_cases e : p' = p
          · rw [e]; exact hx
          · exact j4 p' (by omega)
        rcases k5 with ⟨S', hS', z1, hz2, hz3⟩ | ⟨hS', z1⟩
        · have w' := PLs_wf w hS'
          have hF : Fp n (fun S => (mt n a b S).map ([·])) S m p = ((mt n a b S').map ([·])).map (rw_ m p ++ ·) := by unfold Fp; rw [hS']; rfl
          have n1 : ¬ z.1 = J 0 := by rw [z1, jeq (by omega) (by omega)]; omega
          rw [if_neg n1]
          have key : Ok (j_X5_findMeeting_2 (J m) j_X5_findMeeting_1 (J p) κ' z (J (enc1 (mt n a b S')))) (fun z => (∃ m row, m ≤ 3 ∧ (∀ m', m' < m → rS n (T1 a b) p12 m' S = none) ∧ rS n (T1 a b) p12 m S = some row ∧ z.1 = J 1 ∧ z.2 0 0 = J m ∧ ∀ i, i < m → z.2 1 i = J (row.getD i 0)) ∨ ((∀ m, m ≤ 3 → rS n (T1 a b) p12 m S = none) ∧ z.1 = J 0)) := by
            cases hmt : mt n a b S' with
            | none =>
              simp (disch := omega) only [j_X5_findMeeting_2, enc1, L0, L1, L2, L3, L4, L5, L6, L7, L8, L9, L10, L11, L12, L16, L21, L22, L24, L28, L32, L35, L40, L48, L57, L59, L64, L97, L100, L122, L200, L1000000, chk_J, jlt, jle, jeq, jcl, J_add, J_sub, J_mul, J_neg, Int.toNat_natCast, Option.bind_some, sgs, sgn, if_true, if_false, Int.toNat_zero, Int.toNat_one]
              refine hκ' _ ⟨k1, by rw [k3]; exact j2, k2, nx (by rw [hF, hmt]; rfl)⟩
            | some kk =>
              have hkk : kk < 24 := by
                unfold mt at hmt
                split at hmt
                · cases hmt
                · exact (p12_props kk (List.mem_of_find?_eq_some hmt)).1
              simp (disch := omega) only [j_X5_findMeeting_2, j_X5_findMeeting_1, enc1, L0, L1, L2, L3, L4, L5, L6, L7, L8, L9, L10, L11, L12, L16, L21, L22, L24, L28, L32, L35, L40, L48, L57, L59, L64, L97, L100, L122, L200, L1000000, chk_J, jlt, jle, jeq, jcl, J_add, J_sub, J_mul, J_neg, Int.toNat_natCast, Option.bind_some, sgs, sgn, if_true, if_false, Int.toNat_zero, Int.toNat_one]
              rw [if_neg (by omega), note_eq (by omega), Option.bind_some, Ok_some]
              refine Or.inl ⟨m + 1, rw_ m p ++ [kk], by omega, fun m' hm' => up m i3 m' (by omega), ?_, rfl, ?_, fun i hi => ?_⟩
              · rw [← rM_eq ha hb m S w (up m i3 m (Nat.le_refl m)), rM_dfs]
                exact dfs_at (by omega) hp j4 (by rw [hF, hmt]; rfl)
              · dsimp only; rw [sgs, if_pos rfl]; rfl
              · dsimp only
                have hlen : (rw_ m p).length = m := by
                  unfold rw_
                  rcases (show m = 0 ∨ m = 1 ∨ m = 2 by omega) with e | e | e <;> subst e <;> rfl
                rw [sgn (by omega), sgs, List.getD_eq_getElem?_getD]
                by_cases e : i = m
                · rw [if_pos e, e, List.getElem?_append_right (by omega), hlen]; simp
                · rw [if_neg e, sgn (by omega), sas, if_pos (by omega), hz3 i (by omega), List.getElem?_append_left (by omega), List.getD_eq_getElem?_getD]
          have hmeet := meet_eq w' hz2 ha hb
          rcases (show m = 0 ∨ m = 1 ∨ m = 2 by omega) with e | e | e
          · subst e
            rw [if_pos (by omega), hmeet]
            exact key
          · subst e
            rw [if_neg (by omega), if_pos (by omega), hmeet]
            exact key
          · subst e
            rw [if_neg (by omega), if_neg (by omega), if_pos (by omega), hmeet]
            exact key
        · rw [if_pos z1]
          simp (disch := omega) only [j_X5_findMeeting_2, L0, L1, L2, L3, L4, L5, L6, L7, L8, L9, L10, L11, L12, L16, L21, L22, L24, L28, L32, L35, L40, L48, L57, L59, L64, L97, L100, L122, L200, L1000000, chk_J, jlt, jle, jeq, jcl, J_add, J_sub, J_mul, J_neg, Int.toNat_natCast, Option.bind_some, sgs, sgn, if_true, if_false, Int.toNat_zero, Int.toNat_one]
          refine hκ' _ ⟨k1, by rw [k3]; exact j2, k2, nx ?_⟩
          unfold Fp; rw [hS']; rfl
      · obtain ⟨j1, j2, j3, j4⟩ := hj
        simp (disch := omega) only [s_X5_findMeeting_27, L0, L1, L2, L3, L4, L5, L6, L7, L8, L9, L10, L11, L12, L16, L21, L22, L24, L28, L32, L35, L40, L48, L57, L59, L64, L97, L100, L122, L200, L1000000, chk_J, jlt, jle, jeq, jcl, J_add, J_sub, J_mul, J_neg, Int.toNat_natCast, Option.bind_some, sgs, sgn, if_true, if_false, Int.toNat_zero, Int.toNat_one, plans_eq (show m ≤ 2 by omega)]
        rw [if_pos (by omega)]
        refine hκ _ ⟨j1, j2, fun m' hm' => ?_⟩
        by_cases e : m' = m
        · rw [e, rM_dfs]
          exact dfs_none (by omega) j4
        · exact i3 m' (by omega)
    · simp (disch := omega) only [s_X5_findMeeting_19, L0, L1, L2, L3, L4, L5, L6, L7, L8, L9, L10, L11, L12, L16, L21, L22, L24, L28, L32, L35, L40, L48, L57, L59, L64, L97, L100, L122, L200, L1000000, chk_J, jlt, jle, jeq, jcl, J_add, J_sub, J_mul, J_neg, Int.toNat_natCast, Option.bind_some, sgs, sgn, if_true, if_false, Int.toNat_zero, Int.toNat_one]
      rw [if_pos (by omega), Ok_some]
      exact Or.inr ⟨fun m hm => up 3 hi.2.2 m hm, rfl⟩
