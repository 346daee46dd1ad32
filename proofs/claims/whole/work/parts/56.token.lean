/-! ===== a token, as the class reads it ===== -/
def nv (T : Nat → Int) (s r : Nat) : Int := if r = s then 0 else if r = s + 1 then T s - 48 else 10 * (T s - 48) + T (s + 1) - 48
def NI (T : Nat → Int) (s : Nat) (g : Sg) (r : Nat) (x : Sg) : Prop := (∀ q, q ≠ 0 → x q = g q) ∧ (∀ i, i ≠ 3 → i ≠ 5 → x 0 i = g 0 i) ∧ x 0 3 = J r ∧ x 0 5 = J (nv T s r)
theorem NI.ht {T : Nat → Int} {len s : Nat} {g : Sg} {r : Nat} {x : Sg} (h : HT7 T len g) (hi : NI T s g r x) : HT7 T len x := by
  obtain ⟨h1, h2, h3⟩ := h
  refine ⟨h1, by rw [hi.2.1 0 (by omega) (by omega)]; exact h2, fun j hj => by rw [hi.1 1 (by omega)]; exact h3 j hj⟩
theorem num7_ok {T : Nat → Int} {len : Nat} {g : Sg} (h : HT7 T len g) {s : Nat} (hs : s < len) (hd : isDi (T s) = true) (h2 : g 0 2 = J s) (h3 : g 0 3 = J s) : Ok (f_X7_readNumber g) (fun z => (∀ q, q ≠ 0 → z q = g q) ∧ (∀ i, i ≠ 3 → i ≠ 4 → i ≠ 5 → z 0 i = g 0 i) ∧ z 0 3 = J (rn isDi T len s) ∧ z 0 4 = J (if 2 < rn isDi T len s - s ∨ (1 < rn isDi T len s - s ∧ T s = 48) then 1 else 2) ∧ z 0 5 = J (nv T s (rn isDi T len s))) := by
  have hl := h.1
  have tb := (h.2.2 s hs).2
  obtain ⟨g1, g2, g3, g4⟩ := rn_ge (q := isDi) (T := T) (len := len) (p := s) (Nat.le_refl _)
  have g2 := g2 (by omega)
  unfold f_X7_readNumber
  refine Ok_lc1 (fun n x => ∃ r : Nat, NI T s g r x ∧ n = len - r ∧ s ≤ r ∧ r ≤ len ∧ rn isDi T len r = rn isDi T len s) (fun n x κ hi hκ => ?_) 1000 (len - s) _ (by omega) ⟨s, ⟨fun q hq => by funext i; rw [sgn hq], fun i _ q => by rw [sgs, if_neg q], by rw [sgs, if_neg (by omega)]; exact h3, by rw [sgs, if_pos rfl]; unfold nv; rw [if_pos rfl, L0]⟩, rfl, Nat.le_refl _, by omega, rfl⟩
  obtain ⟨r, ni, hn, r1, r2, r3⟩ := hi
  have hx := NI.ht h ni
  obtain ⟨n1, n2, n3, n4⟩ := ni
  have x2 : x 0 2 = J s := by rw [n2 2 (by omega) (by omega)]; exact h2
  have bb := bt_bd h r
  have by7 := byte7_eq hx (p := r) (by omega)
  have ende : ¬ (r < len ∧ isDi (T r) = true) → Ok (j_X7_readNumber_1 x) (fun z => (∀ q, q ≠ 0 → z q = g q) ∧ (∀ i, i ≠ 3 → i ≠ 4 → i ≠ 5 → z 0 i = g 0 i) ∧ z 0 3 = J (rn isDi T len s) ∧ z 0 4 = J (if 2 < rn isDi T len s - s ∨ (1 < rn isDi T len s - s ∧ T s = 48) then 1 else 2) ∧ z 0 5 = J (nv T s (rn isDi T len s))) := by
    intro hst
    have er : rn isDi T len s = r := by rw [← r3, rn_st hst]
    rw [er]
    have fin : ∀ t : Int, t = (if 2 < r - s ∨ (1 < r - s ∧ T s = 48) then 1 else 2) → Ok (j_X7_readNumber_3 x (J t)) (fun z => (∀ q, q ≠ 0 → z q = g q) ∧ (∀ i, i ≠ 3 → i ≠ 4 → i ≠ 5 → z 0 i = g 0 i) ∧ z 0 3 = J r ∧ z 0 4 = J (if 2 < r - s ∨ (1 < r - s ∧ T s = 48) then 1 else 2) ∧ z 0 5 = J (nv T s r)) := by
      intro t ht
      unfold j_X7_readNumber_3
      rw [Ok_some]
      refine ⟨fun q hq => by funext i; rw [sgn hq, n1 q hq], fun i a b c => by rw [sgs, if_neg b, n2 i a c], by rw [sgs, if_neg (by omega)]; exact n3, by rw [sgs, if_pos rfl, ht], by rw [sgs, if_neg (by omega)]; exact n4⟩
    have bs := byte7_eq hx (p := s) (by omega)
    have bq : bt T len s = T s := by unfold bt; rw [if_pos hs]
    rw [bq] at bs
    unfold j_X7_readNumber_1 j_X7_readNumber_2
    simp (disch := omega) only [n3, x2, J_sub, L1, L2, L0, L48, bs, Option.bind_some, jle, jlt, jeq, if_true]
    by_cases q1 : (r : Int) - s ≤ 1
    · rw [if_pos q1, if_neg (by omega)]
      exact fin 2 (by rw [if_neg (by omega)])
    · rw [if_neg q1]
      by_cases q2 : T s = 48
      · rw [if_pos q2]
        by_cases q3 : (2 : Int) < (r : Int) - s
        · rw [if_pos q3]; exact fin 1 (by rw [if_pos (by omega)])
        · rw [if_neg q3, if_neg (by omega)]; exact fin 1 (by rw [if_pos (by omega)])
      · rw [if_neg q2]
        by_cases q3 : (2 : Int) < (r : Int) - s
        · rw [if_pos q3]; exact fin 1 (by rw [if_pos (by omega)])
        · rw [if_neg q3]; exact fin 2 (by rw [if_neg (by omega)])
  unfold s_X7_readNumber_5
  rw [n3, hx.2.1, by7, Option.bind_some, dig7_eq bb, Option.bind_some, x2, n4]
  by_cases q : len ≤ r
  · rw [if_pos (by rw [jle (by omega) (by omega)]; omega)]
    exact ende (by omega)
  · rw [if_neg (by rw [jle (by omega) (by omega)]; omega)]
    have bq : bt T len r = T r := by unfold bt; rw [if_pos (by omega)]
    rw [bq]
    cases q2 : isDi (T r)
    · rw [if_pos (by decide +kernel)]
      exact ende (by rw [q2]; simp)
    · rw [if_neg (by decide +kernel)]
      have rr : rn isDi T len (r + 1) = rn isDi T len s := by rw [← rn_go (by omega) q2]; exact r3
      rw [L2, J_sub]
      simp (disch := omega) only [jle]
      unfold j_X7_readNumber_4
      by_cases q3 : (2 : Int) ≤ (r : Int) - s
      · rw [if_pos q3, n3, L1, J_add]
        refine hκ (len - (r + 1)) _ (by omega) ⟨r + 1, ⟨fun q hq => by funext i; rw [sgn hq, n1 q hq], fun i a b => by rw [sgs, if_neg a, n2 i a b], by rw [sgs, if_pos rfl]; rfl, ?_⟩, rfl, by omega, by omega, rr⟩
        rw [sgs, if_neg (by omega), n4]
        unfold nv
        rw [if_neg (by omega), if_neg (by omega), if_neg (by omega), if_neg (by omega)]
      · rw [if_neg q3, L10, J_mul, L48, Option.bind_some, J_add, J_sub]
        rw [sgs, if_neg (by omega), n3, L1, J_add]
        refine hκ (len - (r + 1)) _ (by omega) ⟨r + 1, ⟨fun q hq => by funext i; rw [sgn hq, sgn hq, n1 q hq], fun i a b => by rw [sgs, if_neg a, sgs, if_neg b, n2 i a b], by rw [sgs, if_pos rfl]; rfl, ?_⟩, rfl, by omega, by omega, rr⟩
        rw [sgs, if_neg (by omega), sgs, if_pos rfl]
        refine congrArg J ?_
        unfold nv
        rcases (show r = s ∨ r = s + 1 by omega) with e | e
        · subst e; rw [if_pos rfl, if_neg (by omega), if_pos rfl]; omega
        · subst e; rw [if_neg (by omega), if_pos rfl, if_neg (by omega), if_neg (by omega)]
theorem word7_ok {T : Nat → Int} {len : Nat} {g : Sg} (h : HT7 T len g) {s : Nat} (hs : s ≤ len) (h2 : g 0 2 = J s) (h3 : g 0 3 = J s) : Ok (f_X7_readWord g) (fun z => (∀ q, q ≠ 0 → z q = g q) ∧ (∀ i, i ≠ 3 → i ≠ 4 → z 0 i = g 0 i) ∧ z 0 3 = J (rn isLe T len s) ∧ z 0 4 = J (wT T s (rn isLe T len s))) := by
  obtain ⟨g1, g2, g3, g4⟩ := rn_ge (q := isLe) (T := T) (len := len) (p := s) (Nat.le_refl _)
  have g2 := g2 hs
  unfold f_X7_readWord
  refine word7_loop h hs h3 ?_
  generalize rn isLe T len s = e at *
  have hx := h.st (j := 3) (by omega) (J e)
  have x2 : (sg_st g 0 3 (J e)) 0 2 = J s := by rw [sgs, if_neg (by omega)]; exact h2
  have x3 : (sg_st g 0 3 (J e)) 0 3 = J e := by rw [sgs, if_pos rfl]
  have w0 := isWord7_eq hx (w := 0) (by omega) g1 g2 x2 x3
  have w1 := isWord7_eq hx (w := 1) (by omega) g1 g2 x2 x3
  have w2 := isWord7_eq hx (w := 2) (by omega) g1 g2 x2 x3
  have w3 := isWord7_eq hx (w := 3) (by omega) g1 g2 x2 x3
  have fin : ∀ t : Nat, ∀ tt : Int32, tt = J t → t = wT T s e → Ok (some (sg_st (sg_st g 0 3 (J e)) 0 4 tt)) (fun z => (∀ q, q ≠ 0 → z q = g q) ∧ (∀ i, i ≠ 3 → i ≠ 4 → z 0 i = g 0 i) ∧ z 0 3 = J e ∧ z 0 4 = J (wT T s e)) := by
    intro t tt htt ht
    rw [Ok_some, htt, ht]
    exact ⟨fun q hq => by funext i; rw [sgn hq, sgn hq], fun i a b => by rw [sgs, if_neg b, sgs, if_neg a], by rw [sgs, if_neg (by omega)]; exact x3, by rw [sgs, if_pos rfl]⟩
  unfold j_X7_readWord_1
  rw [w0, w1, w2, w3]
  unfold wT at *
  cases q0 : isW T s e 0
  · rw [q0] at fin
    rw [Option.bind_some, if_pos (by decide +kernel)]
    cases q1 : isW T s e 1
    · rw [q1] at fin
      rw [Option.bind_some, if_pos (by decide +kernel)]
      cases q2 : isW T s e 2
      · rw [q2] at fin
        rw [Option.bind_some, if_pos (by decide +kernel)]
        cases q3 : isW T s e 3
        · rw [q3] at fin
          rw [Option.bind_some, if_pos (by decide +kernel)]
          exact fin 1 _ (by decide +kernel) rfl
        · rw [q3] at fin
          rw [Option.bind_some, if_neg (by decide +kernel)]
          exact fin 7 _ (by decide +kernel) rfl
      · rw [q2] at fin
        rw [Option.bind_some, if_neg (by decide +kernel)]
        exact fin 6 _ (by decide +kernel) rfl
    · rw [q1] at fin
      rw [Option.bind_some, if_neg (by decide +kernel)]
      exact fin 5 _ (by decide +kernel) rfl
  · rw [q0] at fin
    rw [Option.bind_some, if_neg (by decide +kernel)]
    exact fin 4 _ (by decide +kernel) rfl
theorem token7_ok {T : Nat → Int} {len : Nat} {g : Sg} (h : HT7 T len g) {p : Nat} (hp : p ≤ len) (h3 : g 0 3 = J p) : Ok (f_X7_readToken g) (fun z => (∀ q, q ≠ 0 → z q = g q) ∧ (∀ i, i ≠ 2 → i ≠ 3 → i ≠ 4 → i ≠ 5 → z 0 i = g 0 i) ∧ z 0 2 = J (tS T len p) ∧ z 0 3 = J (tE T len p) ∧ z 0 4 = J (tT T len p) ∧ (tT T len p = 2 → z 0 5 = J (tV T len p))) := by
  have hl := h.1
  obtain ⟨p1, p2⟩ := tS_pr T len hp
  obtain ⟨p3, p4, p5⟩ := tE_pr T len hp
  unfold f_X7_readToken
  refine skip7_ok h hp h3 ?_
  have hE : tE T len p = if tK T len p = 0 then tS T len p else if tK T len p = 1 then rn isLe T len (tS T len p) else if tK T len p = 2 then rn isDi T len (tS T len p) else tS T len p + 1 := rfl
  have hT : tT T len p = if tK T len p = 0 then 0 else if tK T len p = 1 then wT T (tS T len p) (tE T len p) else if tK T len p = 2 then (if 2 < tE T len p - tS T len p ∨ (1 < tE T len p - tS T len p ∧ T (tS T len p) = 48) then 1 else 2) else if tK T len p = 3 then 3 else 1 := rfl
  have hV : tV T len p = if tE T len p - tS T len p = 1 then T (tS T len p) - 48 else 10 * (T (tS T len p) - 48) + T (tS T len p + 1) - 48 := rfl
  have hK : tK T len p = if len ≤ tS T len p then 0 else if isLe (T (tS T len p)) then 1 else if isDi (T (tS T len p)) then 2 else if T (tS T len p) = 59 then 3 else 4 := rfl
  generalize tS T len p = s at *
  generalize tE T len p = e at *
  generalize tT T len p = t at *
  generalize tV T len p = v at *
  generalize tK T len p = k at *
  have y3 : (sg_st g 0 3 (J s)) 0 3 = J s := by rw [sgs, if_pos rfl]
  have hg := h.st (j := 3) (by omega) (J s)
  have hx := hg.st (j := 2) (by omega) (J s)
  have bb := bt_bd h s
  unfold j_X7_readToken_1
  rw [y3]
  have x2 : (sg_st (sg_st g 0 3 (J s)) 0 2 (J s)) 0 2 = J s := by rw [sgs, if_pos rfl]
  have x3 : (sg_st (sg_st g 0 3 (J s)) 0 2 (J s)) 0 3 = J s := by rw [sgs, if_neg (by omega)]; exact y3
  rw [x2, byte7_eq hx (by omega), Option.bind_some, let7_eq bb, Option.bind_some, dig7_eq bb, Option.bind_some]
  have oth : ∀ q, q ≠ 0 → (sg_st (sg_st g 0 3 (J s)) 0 2 (J s)) q = g q := fun q hq => by funext i; rw [sgn hq, sgn hq]
  have oti : ∀ i, i ≠ 2 → i ≠ 3 → (sg_st (sg_st g 0 3 (J s)) 0 2 (J s)) 0 i = g 0 i := fun i a b => by rw [sgs, if_neg a, sgs, if_neg b]
  by_cases q : len ≤ s
  · have bq : bt T len s = -1 := by unfold bt; rw [if_neg (by omega)]
    rw [if_pos q] at hK
    rw [hK, if_pos rfl] at hE hT
    rw [bq, if_neg (by decide +kernel), Ok_some, hE, hT]
    refine ⟨fun q hq => by funext i; rw [sgn hq]; exact congrFun (oth q hq) i, fun i a b c _ => by rw [sgs, if_neg c]; exact oti i a b, by rw [sgs, if_neg (by omega)]; exact x2, by rw [sgs, if_neg (by omega)]; exact x3, by rw [sgs, if_pos rfl, L0]; rfl, fun q => by omega⟩
  · have bq : bt T len s = T s := by unfold bt; rw [if_pos (by omega)]
    rw [if_neg q] at hK
    rw [bq] at bb ⊢
    have tb := (h.2.2 s (by omega)).2
    rw [if_pos (by rw [L0, jle (by omega) (by omega)]; omega)]
    cases c1 : isLe (T s)
    · rw [c1] at hK
      simp only [Bool.false_eq_true, if_false] at hK
      rw [if_pos (by decide +kernel)]
      cases c2 : isDi (T s)
      · rw [c2] at hK
        simp only [Bool.false_eq_true, if_false] at hK
        rw [if_pos (by decide +kernel)]
        have fin : ∀ tt : Int32, tt = J t → Ok (j_X7_readToken_2 (sg_st g 0 3 (J s)) tt) (fun z => (∀ q, q ≠ 0 → z q = g q) ∧ (∀ i, i ≠ 2 → i ≠ 3 → i ≠ 4 → i ≠ 5 → z 0 i = g 0 i) ∧ z 0 2 = J s ∧ z 0 3 = J e ∧ z 0 4 = J t ∧ (t = 2 → z 0 5 = J v)) := by
          intro tt htt
          unfold j_X7_readToken_2
          rw [y3, sgs, if_neg (by omega), x3, L1, J_add, Ok_some, htt]
          refine ⟨fun q hq => by funext i; rw [sgn hq, sgn hq]; exact congrFun (oth q hq) i, fun i a b c _ => by rw [sgs, if_neg b, sgs, if_neg c]; exact oti i a b, by rw [sgs, if_neg (by omega), sgs, if_neg (by omega)]; exact x2, ?_, by rw [sgs, if_neg (by omega), sgs, if_pos rfl], fun q => ?_⟩
          · rw [sgs, if_pos rfl]
            refine congrArg J ?_
            split at hK <;> rw [hE, hK] <;> simp
          · split at hK <;> rw [hT, hK] at q <;> simp at q
        by_cases c3 : T s = 59
        · rw [if_pos (by rw [c3]; decide +kernel)]
          rw [if_pos c3] at hK
          have ht3 : t = 3 := by rw [hT, hK]; simp
          refine fin _ ?_
          rw [ht3]; decide +kernel
        · rw [if_neg (by rw [L59, jeq (by omega) (by omega)]; exact c3)]
          rw [if_neg c3] at hK
          have ht3 : t = 1 := by rw [hT, hK]; simp
          refine fin _ ?_
          rw [ht3]; decide +kernel
      · rw [c2] at hK
        simp only [if_true] at hK
        rw [if_neg (by decide +kernel), Ok_bind]
        refine (num7_ok hx (by omega) c2 x2 x3).mono (fun z hz => ?_)
        obtain ⟨z1, z2, z3, z4, z5⟩ := hz
        rw [hK] at hE hT
        simp only [show ¬ (2 : Nat) = 0 by decide, show ¬ (2 : Nat) = 1 by decide, if_false, if_true] at hE hT
        rw [← hE] at z3 z4 z5
        rw [Ok_some]
        refine ⟨fun q hq => by rw [z1 q hq]; exact oth q hq, fun i a b c d => by rw [z2 i b c d]; exact oti i a b, by rw [z2 2 (by omega) (by omega) (by omega)]; exact x2, z3, ?_, fun q => ?_⟩
        · rw [z4, hT]
          split <;> rfl
        · rw [z5]
          refine congrArg J ?_
          rw [hV]
          have p5 := p5 (by rw [hK]; omega)
          unfold nv
          rw [hT] at q
          have : ¬ (2 < e - s ∨ (1 < e - s ∧ T s = 48)) := by
            intro q'; rw [if_pos q'] at q; omega
          by_cases e1 : e - s = 1
          · rw [if_neg (by omega), if_pos (by omega), if_pos e1]
          · rw [if_neg (by omega), if_neg (by omega), if_neg e1]
    · rw [c1] at hK
      simp only [if_true] at hK
      rw [if_neg (by decide +kernel), Ok_bind]
      refine (word7_ok hx (by omega) x2 x3).mono (fun z hz => ?_)
      obtain ⟨z1, z2, z3, z4⟩ := hz
      rw [hK] at hE hT
      simp only [show ¬ (1 : Nat) = 0 by decide, if_false, if_true] at hE hT
      rw [← hE] at z3 z4
      rw [← hT] at z4
      rw [Ok_some]
      refine ⟨fun q hq => by rw [z1 q hq]; exact oth q hq, fun i a b c _ => by rw [z2 i b c]; exact oti i a b, by rw [z2 2 (by omega) (by omega)]; exact x2, z3, z4, fun q => ?_⟩
      exfalso
      rw [hT] at q
      unfold wT at q
      (repeat' split at q) <;> omega
