/-! ===== the flat map; two that are to meet; pairs ===== -/
theorem cnt_zero {p : Nat → Bool} : ∀ {n : Nat}, (∀ c, c < n → p c = false) → cnt p n = 0
  | 0, _ => rfl
  | n + 1, h => by rw [cnt_succ, cnt_zero (fun c hc => h c (by omega)), h n (by omega)]; rfl
theorem cnt_one {p : Nat → Bool} : ∀ {n : Nat}, (∀ c d, c < n → d < n → p c = true → p d = true → c = d) → cnt p n ≤ 1
  | 0, _ => by unfold cnt; omega
  | n + 1, h => by
    rw [cnt_succ]
    by_cases hp : p n = true
    · rw [cnt_zero (n := n) (fun c hc => ?_), if_pos hp]
      · omega
      · cases hq : p c
        · rfl
        · have := h c n (by omega) (by omega) hq hp
          omega
    · rw [if_neg hp]
      have := cnt_one (p := p) (n := n) (fun c d hc hd => h c d (by omega) (by omega))
      omega
def Fl (W H : Nat) : St := (fun q => if q = 0 then (W : Int) else (H : Int), fun q c => if q = 0 then ((c % W : Nat) : Int) else if q = 1 then ((c / W : Nat) : Int) else if q = 2 then 0 else 1)
theorem WF_Fl {W H : Nat} (h1 : 1 ≤ W) (h2 : W ≤ 4) (h3 : 1 ≤ H) (h4 : H ≤ 4) : WF (W * H) (Fl W H) := by
  have hm : W * H ≤ 16 := Nat.mul_le_mul h2 h4
  have hdm : ∀ c : Nat, W * (c / W) + c % W = c := fun c => Nat.div_add_mod c W
  have hml : ∀ c : Nat, c % W < W := fun c => Nat.mod_lt c (by omega)
  have hdl : ∀ c : Nat, c < W * H → c / W < H := fun c hc => Nat.div_lt_of_lt_mul hc
  have hap : ∀ c d : Nat, c % W = d % W → c / W = d / W → c = d := fun c d e1 e2 => by rw [← hdm c, ← hdm d, e1, e2]
  refine ⟨hm, ?_, ?_, ?_, ?_, ?_, ?_, ?_, ?_, ?_, ?_⟩
  · show 1 ≤ (W : Int) ∧ (W : Int) ≤ 4; omega
  · show 1 ≤ (H : Int) ∧ (H : Int) ≤ 4; omega
  · intro c _
    show 0 ≤ ((c % W : Nat) : Int) ∧ ((c % W : Nat) : Int) < (W : Int)
    have := hml c
    generalize c % W = x at *
    omega
  · intro c hc
    show 0 ≤ ((c / W : Nat) : Int) ∧ ((c / W : Nat) : Int) < (H : Int)
    have := hdl c hc
    generalize c / W = x at *
    omega
  · intro u hu0 hu1
    have hu1 : u < (W : Int) := hu1
    refine ⟨u.toNat, ?_, ?_⟩
    · have : W * 1 ≤ W * H := Nat.mul_le_mul (Nat.le_refl W) h3
      omega
    · show ((u.toNat % W : Nat) : Int) = u
      rw [Nat.mod_eq_of_lt (by omega)]; omega
  · intro u hu0 hu1
    have hu1 : u < (H : Int) := hu1
    refine ⟨W * u.toNat, ?_, ?_⟩
    · exact Nat.mul_lt_mul_of_pos_left (by omega) (by omega)
    · show ((W * u.toNat / W : Nat) : Int) = u
      rw [Nat.mul_div_cancel_left _ (by omega)]; omega
  · intro c hc
    have := hh_pos (n := W * H) (A := (Fl W H).2 0) (B := (Fl W H).2 1) hc rfl rfl
    refine ⟨Int.le_refl 0, ?_⟩
    show (0 : Int) < _
    omega
  · intro c d _ _ e1 e2 _
    exact hap c d (Int.ofNat.inj e1) (Int.ofNat.inj e2)
  · intro c _; exact Or.inr rfl
  · intro u v l hl hlt
    have h1 : hh (W * H) ((Fl W H).2 0) ((Fl W H).2 1) u v ≤ 1 := by
      refine cnt_one (fun c d _ _ hc hd => ?_)
      simp only [Bool.and_eq_true, decide_eq_true_eq] at hc hd
      exact hap c d (Int.ofNat.inj (hc.1.trans hd.1.symm)) (Int.ofNat.inj (hc.2.trans hd.2.symm))
    obtain ⟨c, hc, e1, e2⟩ := hh_ex (show 1 ≤ hh (W * H) ((Fl W H).2 0) ((Fl W H).2 1) u v by omega)
    refine ⟨c, hc, e1, e2, ?_⟩
    show (0 : Int) = l
    omega
theorem layFlat_ok {W H : Nat} (h1 : 1 ≤ W) (h2 : W ≤ 4) (h3 : 1 ≤ H) (h4 : H ≤ 4) (σ : Sg) : Ok (f_X3_layFlat σ (J W) (J H)) (fun z => HP (W * H) (Fl W H) z) := by
  have hm : H * W ≤ 16 := Nat.mul_le_mul h4 h2
  unfold f_X3_layFlat
  simp (disch := omega) only [L0, L1, L2, L3, L4, L5, L6, L7, L8, L9, L10, L11, L12, L16, L21, L22, L24, L28, L32, L35, L40, L48, L57, L59, L64, L97, L100, L122, L200, L1000000, chk_J, jlt, jle, jeq, jcl, J_add, J_sub, J_mul, J_neg, Int.toNat_natCast, Option.bind_some, sgs, sgn, if_true, if_false, Int.toNat_zero, Int.toNat_one]
  rw [if_neg (by omega), if_neg (by omega), show J 0 = J ((0 : Nat) : Int) from rfl]
  refine Ok_for2 H (fun r g => g 0 0 = J ((r * W : Nat) : Int) ∧ g 0 1 = J W ∧ g 0 2 = J H ∧ ∀ c, c < r * W → g 1 c = J ((Fl W H).2 0 c) ∧ g 2 c = J ((Fl W H).2 1 c) ∧ g 3 c = J ((Fl W H).2 2 c) ∧ g 4 c = J ((Fl W H).2 3 c)) (fun r g κ hr hi hκ => ?_) (fun g κ hi => ?_) 1000 0 _ (by omega) (by omega) ?_
  · obtain ⟨a1, a2, a3, a4⟩ := hi
    simp (disch := omega) only [s_X3_layFlat_25, L0, L1, L2, L3, L4, L5, L6, L7, L8, L9, L10, L11, L12, L16, L21, L22, L24, L28, L32, L35, L40, L48, L57, L59, L64, L97, L100, L122, L200, L1000000, chk_J, jlt, jle, jeq, jcl, J_add, J_sub, J_mul, J_neg, Int.toNat_natCast, Option.bind_some, sgs, sgn, if_true, if_false, Int.toNat_zero, Int.toNat_one, a3]
    rw [if_neg (by omega), show J 0 = J ((0 : Nat) : Int) from rfl]
    have hb : r * W + W ≤ H * W := by
      have := Nat.mul_le_mul (show r + 1 ≤ H by omega) (Nat.le_refl W)
      rw [Nat.add_mul, Nat.one_mul] at this
      exact this
    have hx : ∀ j, j < W → (r * W + j) % W = j ∧ (r * W + j) / W = r := fun j hj => by
      rw [Nat.mul_comm r W, Nat.mul_add_mod, Nat.mod_eq_of_lt hj, Nat.mul_add_div (by omega), Nat.div_eq_of_lt hj]
      exact ⟨rfl, rfl⟩
    have hs : (r + 1) * W = r * W + W := by rw [Nat.add_mul, Nat.one_mul]
    rw [hs] at hκ
    generalize r * W = m at *
    refine Ok_for2 W (fun j g => g 0 0 = J ((m + j : Nat) : Int) ∧ g 0 1 = J W ∧ g 0 2 = J H ∧ ∀ c, c < m + j → g 1 c = J ((Fl W H).2 0 c) ∧ g 2 c = J ((Fl W H).2 1 c) ∧ g 3 c = J ((Fl W H).2 2 c) ∧ g 4 c = J ((Fl W H).2 3 c)) (fun j g κ' hj hi hκ' => ?_) (fun g κ' hi => ?_) 1000 0 _ (by omega) (by omega) ⟨a1, a2, a3, a4⟩
    · obtain ⟨c1, c2, c3, c4⟩ := hi
      simp (disch := omega) only [s_X3_layFlat_36, L0, L1, L2, L3, L4, L5, L6, L7, L8, L9, L10, L11, L12, L16, L21, L22, L24, L28, L32, L35, L40, L48, L57, L59, L64, L97, L100, L122, L200, L1000000, chk_J, jlt, jle, jeq, jcl, J_add, J_sub, J_mul, J_neg, Int.toNat_natCast, Option.bind_some, sgs, sgn, if_true, if_false, Int.toNat_zero, Int.toNat_one, c1, c2]
      rw [if_neg (by omega)]
      refine hκ' _ ⟨?_, ?_, ?_, fun c hc => ?_⟩
      · simp (disch := omega) only [sgs, sgn, if_true]
        exact congrArg J (by omega)
      · simp (disch := omega) only [sgs, sgn, if_neg, c2]
      · simp (disch := omega) only [sgs, sgn, if_neg, c3]
      · simp (disch := omega) only [sgs, sgn]
        by_cases q : c = m + j
        · obtain ⟨x1, x2⟩ := hx j hj
          rw [if_pos q, if_pos q, if_pos q, if_pos q, q]
          refine ⟨?_, ?_, rfl, rfl⟩
          · show _ = J (((m + j) % W : Nat) : Int)
            rw [x1]
          · show _ = J (((m + j) / W : Nat) : Int)
            rw [x2]
        · rw [if_neg q, if_neg q, if_neg q, if_neg q]
          exact c4 c (by omega)
    · obtain ⟨c1, c2, c3, c4⟩ := hi
      simp (disch := omega) only [s_X3_layFlat_36, L0, L1, L2, L3, L4, L5, L6, L7, L8, L9, L10, L11, L12, L16, L21, L22, L24, L28, L32, L35, L40, L48, L57, L59, L64, L97, L100, L122, L200, L1000000, chk_J, jlt, jle, jeq, jcl, J_add, J_sub, J_mul, J_neg, Int.toNat_natCast, Option.bind_some, sgs, sgn, if_true, if_false, Int.toNat_zero, Int.toNat_one, c2]
      rw [if_pos (by omega)]
      exact hκ _ ⟨c1, c2, c3, c4⟩
  · obtain ⟨a1, a2, a3, a4⟩ := hi
    simp (disch := omega) only [s_X3_layFlat_25, L0, L1, L2, L3, L4, L5, L6, L7, L8, L9, L10, L11, L12, L16, L21, L22, L24, L28, L32, L35, L40, L48, L57, L59, L64, L97, L100, L122, L200, L1000000, chk_J, jlt, jle, jeq, jcl, J_add, J_sub, J_mul, J_neg, Int.toNat_natCast, Option.bind_some, sgs, sgn, if_true, if_false, Int.toNat_zero, Int.toNat_one, a3]
    rw [if_pos (by omega), Ok_some, Nat.mul_comm W H]
    exact ⟨a1, a2, a3, a4⟩
  · rw [Nat.zero_mul]
    refine ⟨?_, ?_, ?_, fun c hc => by omega⟩ <;> simp (disch := omega) only [sgs, sgn, if_neg, if_true] <;> rfl
/-! the highest, the lowest -/
theorem WF.top {n : Nat} {S : St} (w : WF n S) {c : Nat} (hc : c < n) : (∀ d, d < n → S.2 0 d = S.2 0 c → S.2 1 d = S.2 1 c → S.2 2 d ≤ S.2 2 c) ↔ S.2 2 c = hh n (S.2 0) (S.2 1) (S.2 0 c) (S.2 1 c) - 1 := by
  obtain ⟨w1, w2, w3, w4, w5, w6, w7, w8, w9, w10, w11⟩ := w
  have h1 := w8 c hc
  constructor
  · intro h
    obtain ⟨d, hd, e1, e2, e3⟩ := w11 (S.2 0 c) (S.2 1 c) (hh n (S.2 0) (S.2 1) (S.2 0 c) (S.2 1 c) - 1) (by omega) (by omega)
    have := h d hd e1 e2
    omega
  · intro h d hd e1 e2
    have := w8 d hd
    rw [e1, e2] at this
    omega
theorem outer1_ok {n : Nat} {S : St} {σ : Sg} (w : WF n S) (h : HP n S σ) {c : Nat} (hc : c < n) : Ok (f_X3_isOutermost σ (J c) (J 1)) (fun r => r = J (if S.2 2 c = hh n (S.2 0) (S.2 1) (S.2 0 c) (S.2 1 c) - 1 then 1 else 0)) := by
  obtain ⟨b1, b2, b3, b4, b5, b6, b7⟩ := w.bd hc
  obtain ⟨a1, a2, a3, a4⟩ := h.2.2.2 c hc
  have ht := w.top hc
  simp (disch := omega) only [f_X3_isOutermost, L0, L1, L2, L3, L4, L5, L6, L7, L8, L9, L10, L11, L12, L16, L21, L22, L24, L28, L32, L35, L40, L48, L57, L59, L64, L97, L100, L122, L200, L1000000, chk_J, jlt, jle, jeq, jcl, J_add, J_sub, J_mul, J_neg, Int.toNat_natCast, Option.bind_some, sgs, sgn, if_true, if_false, Int.toNat_zero, Int.toNat_one]
  rw [if_neg (by omega), show J 0 = J ((0 : Nat) : Int) from rfl]
  refine Ok_for1 n (fun k => ∀ d, d < k → S.2 0 d = S.2 0 c → S.2 1 d = S.2 1 c → S.2 2 d ≤ S.2 2 c) (fun k κ hk hi hκ => ?_) (fun κ hi => ?_) 1000 0 (by omega) (by omega) (fun d hd => by omega)
  · obtain ⟨-, c2, c3, c4, c5, -, -⟩ := w.bd hk
    obtain ⟨d1, d2, d3, d4⟩ := h.2.2.2 k hk
    have nx : (S.2 0 k = S.2 0 c → S.2 1 k = S.2 1 c → S.2 2 k ≤ S.2 2 c) → ∀ d, d < k + 1 → S.2 0 d = S.2 0 c → S.2 1 d = S.2 1 c → S.2 2 d ≤ S.2 2 c := by
      intro hx d hd
      by_cases e : d = k
      · subst e; exact hx
      · exact hi d (by omega)
    simp (disch := omega) only [s_X3_isOutermost_21, L0, L1, L2, L3, L4, L5, L6, L7, L8, L9, L10, L11, L12, L16, L21, L22, L24, L28, L32, L35, L40, L48, L57, L59, L64, L97, L100, L122, L200, L1000000, chk_J, jlt, jle, jeq, jcl, J_add, J_sub, J_mul, J_neg, Int.toNat_natCast, Option.bind_some, sgs, sgn, if_true, if_false, Int.toNat_zero, Int.toNat_one, h.1, a1, a2, a3, d1, d2, d3]
    rw [if_neg (by omega)]
    by_cases q1 : S.2 0 k = S.2 0 c
    · rw [if_pos q1]
      by_cases q2 : S.2 1 k = S.2 1 c
      · rw [if_pos q2]
        by_cases q3 : S.2 2 k ≤ S.2 2 c
        · rw [if_pos q3]
          exact hκ (nx (fun _ _ => q3))
        · rw [if_neg q3, Ok_some]
          rw [if_neg (fun g => q3 (ht.mpr g k hk q1 q2))]
      · rw [if_neg q2]
        exact hκ (nx (fun _ g => absurd g q2))
    · rw [if_neg q1]
      exact hκ (nx (fun g _ => absurd g q1))
  · simp (disch := omega) only [s_X3_isOutermost_21, L0, L1, L2, L3, L4, L5, L6, L7, L8, L9, L10, L11, L12, L16, L21, L22, L24, L28, L32, L35, L40, L48, L57, L59, L64, L97, L100, L122, L200, L1000000, chk_J, jlt, jle, jeq, jcl, J_add, J_sub, J_mul, J_neg, Int.toNat_natCast, Option.bind_some, sgs, sgn, if_true, if_false, Int.toNat_zero, Int.toNat_one, h.1]
    rw [if_pos (by omega), Ok_some, if_pos (ht.mp hi)]
theorem outer_eq {n : Nat} {S : St} {σ : Sg} (w : WF n S) (h : HP n S σ) {c : Nat} (hc : c < n) {t : Int} (ht : t = 0 ∨ t = 1) : f_X3_isOutermost σ (J c) (J t) = some (J (if (if t = 1 then S.2 2 c = hh n (S.2 0) (S.2 1) (S.2 0 c) (S.2 1 c) - 1 else S.2 2 c = 0) then 1 else 0)) := by
  rcases ht with ht | ht
  · subst ht
    obtain ⟨b1, b2, b3, b4, b5, b6, b7⟩ := w.bd hc
    obtain ⟨a1, a2, a3, a4⟩ := h.2.2.2 c hc
    simp (disch := omega) only [f_X3_isOutermost, L0, L1, L2, L3, L4, L5, L6, L7, L8, L9, L10, L11, L12, L16, L21, L22, L24, L28, L32, L35, L40, L48, L57, L59, L64, L97, L100, L122, L200, L1000000, chk_J, jlt, jle, jeq, jcl, J_add, J_sub, J_mul, J_neg, Int.toNat_natCast, Option.bind_some, sgs, sgn, if_true, if_false, Int.toNat_zero, Int.toNat_one, a3]
    by_cases q : S.2 2 c = 0
    · rw [if_pos q]; simp [q]
    · rw [if_neg q]; simp [q]
  · subst ht
    rw [Ok_eqs.mp (outer1_ok w h hc)]
    simp
