/-! ===== words and numbers told ===== -/
def K (z : Int) : Int64 := Int64.ofInt z
theorem K_add (a b : Int) : K a + K b = K (a + b) := (Int64.ofInt_add a b).symm
theorem K_mul (a b : Int) : K a * K b = K (a * b) := (Int64.ofInt_mul a b).symm
theorem K_toInt {a : Int} (h : -1000000000000000000 ≤ a ∧ a ≤ 1000000000000000000) : (K a).toInt = a := by
  unfold K
  exact Int64.toInt_ofInt_of_le (by simp; omega) (by simp; omega)
theorem K_eq {a b : Int} (ha : -1000000000000000000 ≤ a ∧ a ≤ 1000000000000000000) (hb : -1000000000000000000 ≤ b ∧ b ≤ 1000000000000000000) : K a = K b ↔ a = b := by
  constructor
  · intro h; rw [← K_toInt ha, ← K_toInt hb, h]
  · intro h; rw [h]
theorem J_K {b : Int} (hb : -1 ≤ b ∧ b ≤ 255) : (J b).toInt64 = K b := by
  rw [← Int64.toInt_inj, Int32.toInt_toInt64, jI (by omega), K_toInt (by omega)]
def be (T : Nat → Int) (s : Nat) : Nat → Int
  | 0 => 0
  | k + 1 => 256 * be T s k + T (s + k)
theorem be_bd {T : Nat → Int} {s : Nat} : ∀ {d : Nat}, d ≤ 7 → (∀ j, j < d → 97 ≤ T (s + j) ∧ T (s + j) ≤ 122) → 0 ≤ be T s d ∧ be T s d < 256 ^ d
  | 0, _, _ => by unfold be; omega
  | d + 1, h, ht => by
    obtain ⟨h1, h2⟩ := be_bd (T := T) (s := s) (d := d) (by omega) (fun j hj => ht j (by omega))
    have h3 := ht d (by omega)
    have e : be T s (d + 1) = 256 * be T s d + T (s + d) := rfl
    rw [e, Int.pow_succ]
    omega
theorem isW_iff {T : Nat → Int} {s e w : Nat} : isW T s e w = true ↔ (e - s = (wB w).length ∧ ∀ j, j < (wB w).length → T (s + j) = (wB w).getD j 0) := by
  unfold isW
  rw [Bool.and_eq_true, decide_eq_true_eq, List.all_eq_true]
  constructor
  · intro ⟨h1, h2⟩
    exact ⟨h1, fun j hj => of_decide_eq_true (h2 j (by simpa using hj))⟩
  · intro ⟨h1, h2⟩
    exact ⟨h1, fun j hj => decide_eq_true (h2 j (by simpa using hj))⟩
theorem isW0 {T : Nat → Int} {s d : Nat} : isW T s (s + d) 0 = true ↔ (d = 3 ∧ T s = 109 ∧ T (s + 1) = 97 ∧ T (s + 2) = 112) := by
  rw [isW_iff, Nat.add_sub_cancel_left]
  constructor
  · intro ⟨h1, h2⟩
    exact ⟨h1, h2 0 (by decide), h2 1 (by decide), h2 2 (by decide)⟩
  · intro ⟨h1, a, b, c⟩
    refine ⟨h1, fun j hj => ?_⟩
    have hj : j < 3 := hj
    rcases (show j = 0 ∨ j = 1 ∨ j = 2 by omega) with e | e | e <;> subst e <;> assumption
theorem isW1 {T : Nat → Int} {s d : Nat} : isW T s (s + d) 1 = true ↔ (d = 5 ∧ T s = 119 ∧ T (s + 1) = 111 ∧ T (s + 2) = 114 ∧ T (s + 3) = 116 ∧ T (s + 4) = 104) := by
  rw [isW_iff, Nat.add_sub_cancel_left]
  constructor
  · intro ⟨h1, h2⟩
    exact ⟨h1, h2 0 (by decide), h2 1 (by decide), h2 2 (by decide), h2 3 (by decide), h2 4 (by decide)⟩
  · intro ⟨h1, a, b, c, d, e⟩
    refine ⟨h1, fun j hj => ?_⟩
    have hj : j < 5 := hj
    rcases (show j = 0 ∨ j = 1 ∨ j = 2 ∨ j = 3 ∨ j = 4 by omega) with e | e | e | e | e <;> subst e <;> assumption
theorem isW2 {T : Nat → Int} {s d : Nat} : isW T s (s + d) 2 = true ↔ (d = 7 ∧ T s = 113 ∧ T (s + 1) = 117 ∧ T (s + 2) = 97 ∧ T (s + 3) = 114 ∧ T (s + 4) = 114 ∧ T (s + 5) = 101 ∧ T (s + 6) = 108) := by
  rw [isW_iff, Nat.add_sub_cancel_left]
  constructor
  · intro ⟨h1, h2⟩
    exact ⟨h1, h2 0 (by decide), h2 1 (by decide), h2 2 (by decide), h2 3 (by decide), h2 4 (by decide), h2 5 (by decide), h2 6 (by decide)⟩
  · intro ⟨h1, a, b, c, d, e, f, g⟩
    refine ⟨h1, fun j hj => ?_⟩
    have hj : j < 7 := hj
    rcases (show j = 0 ∨ j = 1 ∨ j = 2 ∨ j = 3 ∨ j = 4 ∨ j = 5 ∨ j = 6 by omega) with e | e | e | e | e | e | e <;> subst e <;> assumption
theorem isW3 {T : Nat → Int} {s d : Nat} : isW T s (s + d) 3 = true ↔ (d = 4 ∧ T s = 116 ∧ T (s + 1) = 101 ∧ T (s + 2) = 97 ∧ T (s + 3) = 114) := by
  rw [isW_iff, Nat.add_sub_cancel_left]
  constructor
  · intro ⟨h1, h2⟩
    exact ⟨h1, h2 0 (by decide), h2 1 (by decide), h2 2 (by decide), h2 3 (by decide)⟩
  · intro ⟨h1, a, b, c, d⟩
    refine ⟨h1, fun j hj => ?_⟩
    have hj : j < 4 := hj
    rcases (show j = 0 ∨ j = 1 ∨ j = 2 ∨ j = 3 by omega) with e | e | e | e <;> subst e <;> assumption
theorem be_words {T : Nat → Int} {s d : Nat} (hd : d ≤ 7) (ht : ∀ j, j < d → 97 ≤ T (s + j) ∧ T (s + j) ≤ 122) :
    (be T s d = 7168368 ↔ isW T s (s + d) 0 = true) ∧ (be T s d = 512970880104 ↔ isW T s (s + d) 1 = true) ∧ (be T s d = 31935733760681324 ↔ isW T s (s + d) 2 = true) ∧ (be T s d = 1952801138 ↔ isW T s (s + d) 3 = true) := by
  rw [isW0, isW1, isW2, isW3]
  rcases (show d = 0 ∨ d = 1 ∨ d = 2 ∨ d = 3 ∨ d = 4 ∨ d = 5 ∨ d = 6 ∨ d = 7 by omega) with e | e | e | e | e | e | e | e <;> subst e
  · have e : be T s 0 = 0 := rfl
    clear ht
    generalize be T s 0 = v at *
    exact ⟨⟨fun g => by exfalso; omega, fun g => absurd g.1 (by decide)⟩, ⟨fun g => by exfalso; omega, fun g => absurd g.1 (by decide)⟩, ⟨fun g => by exfalso; omega, fun g => absurd g.1 (by decide)⟩, ⟨fun g => by exfalso; omega, fun g => absurd g.1 (by decide)⟩⟩
  · have t0 : 97 ≤ T (s + 0) ∧ T (s + 0) ≤ 122 := ht 0 (by omega)
    rw [Nat.add_zero] at t0
    have e : be T s 1 = 256 * 0 + T (s + 0) := rfl
    rw [Nat.add_zero] at e
    clear ht
    generalize be T s 1 = v at *
    generalize T s = b0 at *
    exact ⟨⟨fun g => by exfalso; omega, fun g => absurd g.1 (by decide)⟩, ⟨fun g => by exfalso; omega, fun g => absurd g.1 (by decide)⟩, ⟨fun g => by exfalso; omega, fun g => absurd g.1 (by decide)⟩, ⟨fun g => by exfalso; omega, fun g => absurd g.1 (by decide)⟩⟩
  · have t0 : 97 ≤ T (s + 0) ∧ T (s + 0) ≤ 122 := ht 0 (by omega)
    have t1 : 97 ≤ T (s + 1) ∧ T (s + 1) ≤ 122 := ht 1 (by omega)
    rw [Nat.add_zero] at t0
    have e : be T s 2 = 256 * (256 * 0 + T (s + 0)) + T (s + 1) := rfl
    rw [Nat.add_zero] at e
    clear ht
    generalize be T s 2 = v at *
    generalize T s = b0 at *
    generalize T (s + 1) = b1 at *
    exact ⟨⟨fun g => by exfalso; omega, fun g => absurd g.1 (by decide)⟩, ⟨fun g => by exfalso; omega, fun g => absurd g.1 (by decide)⟩, ⟨fun g => by exfalso; omega, fun g => absurd g.1 (by decide)⟩, ⟨fun g => by exfalso; omega, fun g => absurd g.1 (by decide)⟩⟩
  · have t0 : 97 ≤ T (s + 0) ∧ T (s + 0) ≤ 122 := ht 0 (by omega)
    have t1 : 97 ≤ T (s + 1) ∧ T (s + 1) ≤ 122 := ht 1 (by omega)
    have t2 : 97 ≤ T (s + 2) ∧ T (s + 2) ≤ 122 := ht 2 (by omega)
    rw [Nat.add_zero] at t0
    have e : be T s 3 = 256 * (256 * (256 * 0 + T (s + 0)) + T (s + 1)) + T (s + 2) := rfl
    rw [Nat.add_zero] at e
    clear ht
    generalize be T s 3 = v at *
    generalize T s = b0 at *
    generalize T (s + 1) = b1 at *
    generalize T (s + 2) = b2 at *
    exact ⟨⟨fun g => by omega, fun g => by omega⟩, ⟨fun g => by exfalso; omega, fun g => absurd g.1 (by decide)⟩, ⟨fun g => by exfalso; omega, fun g => absurd g.1 (by decide)⟩, ⟨fun g => by exfalso; omega, fun g => absurd g.1 (by decide)⟩⟩
  · have t0 : 97 ≤ T (s + 0) ∧ T (s + 0) ≤ 122 := ht 0 (by omega)
    have t1 : 97 ≤ T (s + 1) ∧ T (s + 1) ≤ 122 := ht 1 (by omega)
    have t2 : 97 ≤ T (s + 2) ∧ T (s + 2) ≤ 122 := ht 2 (by omega)
    have t3 : 97 ≤ T (s + 3) ∧ T (s + 3) ≤ 122 := ht 3 (by omega)
    rw [Nat.add_zero] at t0
    have e : be T s 4 = 256 * (256 * (256 * (256 * 0 + T (s + 0)) + T (s + 1)) + T (s + 2)) + T (s + 3) := rfl
    rw [Nat.add_zero] at e
    clear ht
    generalize be T s 4 = v at *
    generalize T s = b0 at *
    generalize T (s + 1) = b1 at *
    generalize T (s + 2) = b2 at *
    generalize T (s + 3) = b3 at *
    exact ⟨⟨fun g => by exfalso; omega, fun g => absurd g.1 (by decide)⟩, ⟨fun g => by exfalso; omega, fun g => absurd g.1 (by decide)⟩, ⟨fun g => by exfalso; omega, fun g => absurd g.1 (by decide)⟩, ⟨fun g => by omega, fun g => by omega⟩⟩
  · have t0 : 97 ≤ T (s + 0) ∧ T (s + 0) ≤ 122 := ht 0 (by omega)
    have t1 : 97 ≤ T (s + 1) ∧ T (s + 1) ≤ 122 := ht 1 (by omega)
    have t2 : 97 ≤ T (s + 2) ∧ T (s + 2) ≤ 122 := ht 2 (by omega)
    have t3 : 97 ≤ T (s + 3) ∧ T (s + 3) ≤ 122 := ht 3 (by omega)
    have t4 : 97 ≤ T (s + 4) ∧ T (s + 4) ≤ 122 := ht 4 (by omega)
    rw [Nat.add_zero] at t0
    have e : be T s 5 = 256 * (256 * (256 * (256 * (256 * 0 + T (s + 0)) + T (s + 1)) + T (s + 2)) + T (s + 3)) + T (s + 4) := rfl
    rw [Nat.add_zero] at e
    clear ht
    generalize be T s 5 = v at *
    generalize T s = b0 at *
    generalize T (s + 1) = b1 at *
    generalize T (s + 2) = b2 at *
    generalize T (s + 3) = b3 at *
    generalize T (s + 4) = b4 at *
    exact ⟨⟨fun g => by exfalso; omega, fun g => absurd g.1 (by decide)⟩, ⟨fun g => by omega, fun g => by omega⟩, ⟨fun g => by exfalso; omega, fun g => absurd g.1 (by decide)⟩, ⟨fun g => by exfalso; omega, fun g => absurd g.1 (by decide)⟩⟩
  · have t0 : 97 ≤ T (s + 0) ∧ T (s + 0) ≤ 122 := ht 0 (by omega)
    have t1 : 97 ≤ T (s + 1) ∧ T (s + 1) ≤ 122 := ht 1 (by omega)
    have t2 : 97 ≤ T (s + 2) ∧ T (s + 2) ≤ 122 := ht 2 (by omega)
    have t3 : 97 ≤ T (s + 3) ∧ T (s + 3) ≤ 122 := ht 3 (by omega)
    have t4 : 97 ≤ T (s + 4) ∧ T (s + 4) ≤ 122 := ht 4 (by omega)
    have t5 : 97 ≤ T (s + 5) ∧ T (s + 5) ≤ 122 := ht 5 (by omega)
    rw [Nat.add_zero] at t0
    have e : be T s 6 = 256 * (256 * (256 * (256 * (256 * (256 * 0 + T (s + 0)) + T (s + 1)) + T (s + 2)) + T (s + 3)) + T (s + 4)) + T (s + 5) := rfl
    rw [Nat.add_zero] at e
    clear ht
    generalize be T s 6 = v at *
    generalize T s = b0 at *
    generalize T (s + 1) = b1 at *
    generalize T (s + 2) = b2 at *
    generalize T (s + 3) = b3 at *
    generalize T (s + 4) = b4 at *
    generalize T (s + 5) = b5 at *
    exact ⟨⟨fun g => by exfalso; omega, fun g => absurd g.1 (by decide)⟩, ⟨fun g => by exfalso; omega, fun g => absurd g.1 (by decide)⟩, ⟨fun g => by exfalso; omega, fun g => absurd g.1 (by decide)⟩, ⟨fun g => by exfalso; omega, fun g => absurd g.1 (by decide)⟩⟩
  · have t0 : 97 ≤ T (s + 0) ∧ T (s + 0) ≤ 122 := ht 0 (by omega)
    have t1 : 97 ≤ T (s + 1) ∧ T (s + 1) ≤ 122 := ht 1 (by omega)
    have t2 : 97 ≤ T (s + 2) ∧ T (s + 2) ≤ 122 := ht 2 (by omega)
    have t3 : 97 ≤ T (s + 3) ∧ T (s + 3) ≤ 122 := ht 3 (by omega)
    have t4 : 97 ≤ T (s + 4) ∧ T (s + 4) ≤ 122 := ht 4 (by omega)
    have t5 : 97 ≤ T (s + 5) ∧ T (s + 5) ≤ 122 := ht 5 (by omega)
    have t6 : 97 ≤ T (s + 6) ∧ T (s + 6) ≤ 122 := ht 6 (by omega)
    rw [Nat.add_zero] at t0
    have e : be T s 7 = 256 * (256 * (256 * (256 * (256 * (256 * (256 * 0 + T (s + 0)) + T (s + 1)) + T (s + 2)) + T (s + 3)) + T (s + 4)) + T (s + 5)) + T (s + 6) := rfl
    rw [Nat.add_zero] at e
    clear ht
    generalize be T s 7 = v at *
    generalize T s = b0 at *
    generalize T (s + 1) = b1 at *
    generalize T (s + 2) = b2 at *
    generalize T (s + 3) = b3 at *
    generalize T (s + 4) = b4 at *
    generalize T (s + 5) = b5 at *
    generalize T (s + 6) = b6 at *
    exact ⟨⟨fun g => by exfalso; omega, fun g => absurd g.1 (by decide)⟩, ⟨fun g => by exfalso; omega, fun g => absurd g.1 (by decide)⟩, ⟨fun g => by omega, fun g => by omega⟩, ⟨fun g => by exfalso; omega, fun g => absurd g.1 (by decide)⟩⟩
def vbN (t : Nat) : Int := if t = 4 then 0 else if t = 5 then 1 else if t = 6 then 2 else if t = 7 then 3 else -9
theorem verb_eq {T : Nat → Int} {len p : Nat} {g z : Sg} {tr : Int64} (hp : p ≤ len) (hg : H9T T len g) (h : TK T len p g z) : f_X9_verb z tr = some (J (vbN (tT T len p))) := by
  have hl := hg.1
  have hz := hg.tk h
  obtain ⟨p1, p2⟩ := tS_pr T len hp
  obtain ⟨p3, p4, p5⟩ := tE_pr T len hp
  obtain ⟨z1, z2, z3, z4, z5, z6⟩ := h
  have hk4 : tK T len p ≤ 4 := by rw [tK_sof hg p]; exact sof_le _
  have c1 : (7168368 : Int64) = K 7168368 := by decide +kernel
  have c2 : (512970880104 : Int64) = K 512970880104 := by decide +kernel
  have c3 : (31935733760681324 : Int64) = K 31935733760681324 := by decide +kernel
  have c4 : (1952801138 : Int64) = K 1952801138 := by decide +kernel
  have last : ∀ b : Int, 0 ≤ b → b < 100000000000000000 → j_X9_verb_1 (K b) = some (J (if b = 7168368 then 0 else if b = 512970880104 then 1 else if b = 31935733760681324 then 2 else if b = 1952801138 then 3 else -9)) := by
    intro b b1 b2
    unfold j_X9_verb_1
    rw [c1, c2, c3, c4]
    simp only [lg_cmp_eq]
    have k1 : (K b = K 7168368) ↔ b = 7168368 := K_eq (by omega) (by omega)
    have k2 : (K b = K 512970880104) ↔ b = 512970880104 := K_eq (by omega) (by omega)
    have k3 : (K b = K 31935733760681324) ↔ b = 31935733760681324 := K_eq (by omega) (by omega)
    have k4 : (K b = K 1952801138) ↔ b = 1952801138 := K_eq (by omega) (by omega)
    simp only [k1, k2, k3, k4]
    (repeat' split) <;> decide +kernel
  unfold f_X9_verb
  by_cases q : tK T len p = 1 ∧ tE T len p - tS T len p < 8
  · obtain ⟨q1, q2⟩ := q
    have hE : tE T len p = rn isLe T len (tS T len p) := by unfold tE; rw [if_neg (by omega), if_pos q1]
    obtain ⟨-, -, -, e4⟩ := rn_ge (q := isLe) (T := T) (len := len) (p := tS T len p) (Nat.le_refl _)
    rw [← hE] at e4
    have lets : ∀ j, j < tE T len p - tS T len p → 97 ≤ T (tS T len p + j) ∧ T (tS T len p + j) ≤ 122 := fun j hj => of_decide_eq_true (e4 (tS T len p + j) (by omega) (by omega)).2
    have hT : tT T len p = wT T (tS T len p) (tE T len p) := by unfold tT; rw [if_neg (by omega), if_pos q1]
    rw [hT]
    have p5 := p5 (by omega)
    have ed : tE T len p = tS T len p + (tE T len p - tS T len p) := by omega
    generalize hd : tE T len p - tS T len p = d at *
    rw [ed]
    rw [ed] at e4 hE
    rw [q1] at z4
    generalize tS T len p = s at *
    obtain ⟨w0, w1, w2, w3⟩ := be_words (T := T) (s := s) (d := d) (by omega) lets
    rw [← Ok_eqs, show (0 : Int32) = J ((0 : Nat) : Int) from by decide +kernel, show (0 : Int64) = K (be T s 0) from (by decide +kernel : (0 : Int64) = K 0)]
    refine Ok_for2r d (fun k y => y = K (be T s k)) (fun k y κ hk hi hκ => ?_) (fun y κ hi => ?_) 1000 0 _ (by omega) (by omega) rfl
    · subst hi
      unfold s_X9_verb_4
      rw [z6, z4, z5]
      have by9 := byte9_eq (tr := tr) hz (p := s + k) (by omega)
      have bq : bt T len (s + k) = T (s + k) := by unfold bt; rw [if_pos (by omega)]
      have tb := lets k hk
      rw [bq] at by9
      rw [if_neg (by rw [jle (by omega) (by omega)]; omega), if_neg (by rw [L8, jle (by omega) (by omega)]; omega), if_pos (by decide +kernel), J_add, show ((s : Int) + (k : Int)) = ((s + k : Nat) : Int) from rfl, by9, Option.bind_some, J_K (by omega), show (256 : Int64) = K 256 from by decide +kernel, K_mul, K_add, L1, J_add]
      exact hκ _ rfl
    · subst hi
      unfold s_X9_verb_4
      rw [z6, if_pos (by rw [jle (by omega) (by omega)]; omega)]
      obtain ⟨b1, b2⟩ := be_bd (T := T) (s := s) (d := d) (by omega) lets
      have b3 : (256 : Int) ^ d ≤ 256 ^ 7 := by
        have : ∀ d : Fin 8, (256 : Int) ^ d.1 ≤ 256 ^ 7 := by decide +kernel
        exact this ⟨d, by omega⟩
      rw [last _ b1 (by omega), Ok_some]
      refine congrArg J ?_
      unfold vbN wT
      cases i0 : isW T s (s + d) 0
      · have n0 : ¬ be T s d = 7168368 := fun g => by rw [w0.mp g] at i0; cases i0
        rw [if_neg n0]
        cases i1 : isW T s (s + d) 1
        · have n1 : ¬ be T s d = 512970880104 := fun g => by rw [w1.mp g] at i1; cases i1
          rw [if_neg n1]
          cases i2 : isW T s (s + d) 2
          · have n2 : ¬ be T s d = 31935733760681324 := fun g => by rw [w2.mp g] at i2; cases i2
            rw [if_neg n2]
            cases i3 : isW T s (s + d) 3
            · have n3 : ¬ be T s d = 1952801138 := fun g => by rw [w3.mp g] at i3; cases i3
              rw [if_neg n3]; rfl
            · rw [if_pos (w3.mpr i3)]; rfl
          · rw [if_pos (w2.mpr i2)]; rfl
        · rw [if_pos (w1.mpr i1)]; rfl
      · rw [if_pos (w0.mpr i0)]; rfl
  · have no : vbN (tT T len p) = -9 := by
      unfold tT
      by_cases k0 : tK T len p = 0
      · rw [if_pos k0]; rfl
      · rw [if_neg k0]
        by_cases k1 : tK T len p = 1
        · rw [if_pos k1]
          have hw : ∀ w, w < 4 → isW T (tS T len p) (tE T len p) w = false := by
            intro w hw
            cases hq : isW T (tS T len p) (tE T len p) w
            · rfl
            · have h1 := (isW_iff.mp hq).1
              have : ∀ w : Fin 4, (wB w.1).length ≤ 7 := by decide
              have := this ⟨w, hw⟩
              simp only at this
              omega
          unfold wT
          rw [hw 0 (by omega), hw 1 (by omega), hw 2 (by omega), hw 3 (by omega)]; rfl
        · rw [if_neg k1]
          (repeat' split) <;> rfl
    rw [no, show (1000 : Nat) = 999 + 1 from rfl, lc2_u]
    have l0 : j_X9_verb_1 0 = some (J (-9)) := by
      have := last 0 (by omega) (by omega)
      rw [show K 0 = 0 from by decide +kernel] at this
      rw [this]; decide +kernel
    unfold s_X9_verb_4
    rw [z6, z4, l0]
    by_cases d0 : tE T len p - tS T len p = 0
    · rw [if_pos (by rw [d0]; decide +kernel)]
    · rw [if_neg (by rw [L0, jle (by omega) (by omega)]; omega)]
      by_cases d8 : 8 ≤ tE T len p - tS T len p
      · rw [if_pos (by rw [L8, jle (by omega) (by omega)]; omega)]
      · rw [if_neg (by rw [L8, jle (by omega) (by omega)]; omega), if_neg (by rw [L1, jeq (by omega) (by omega)]; omega)]
