/-! ===== the pure side: a calculus for the functions ===== -/
def Ok {R : Type} (o : Option R) (P : R → Prop) : Prop := ∃ r, o = some r ∧ P r
theorem Ok_some {R : Type} {r : R} {P : R → Prop} : Ok (some r) P ↔ P r := ⟨fun ⟨_, e, h⟩ => Option.some.inj e ▸ h, fun h => ⟨r, rfl, h⟩⟩
theorem Ok_none {R : Type} {P : R → Prop} : Ok (none : Option R) P ↔ False := ⟨fun ⟨_, e, _⟩ => (by cases e), False.elim⟩
theorem Ok_ite {R : Type} {c : Prop} [Decidable c] {a b : Option R} {P : R → Prop} : Ok (if c then a else b) P ↔ (c → Ok a P) ∧ (¬ c → Ok b P) := by
  by_cases h : c
  · rw [if_pos h]; exact ⟨fun x => ⟨fun _ => x, fun n => absurd h n⟩, fun x => x.1 h⟩
  · rw [if_neg h]; exact ⟨fun x => ⟨fun n => absurd n h, fun _ => x⟩, fun x => x.2 h⟩
theorem Ok_chk {R : Type} {i : Int32} {n : Nat} {k : Option R} {P : R → Prop} : Ok (chk i n k) P ↔ vp_in i n ∧ Ok k P := by
  constructor
  · intro ⟨r, e, h⟩
    obtain ⟨h1, h2⟩ := chk_in e
    exact ⟨h1, r, h2, h⟩
  · intro ⟨h1, h2⟩
    unfold chk
    rw [if_neg h1]
    exact h2
theorem Ok_cnz {R : Type} {y : Int32} {k : Option R} {P : R → Prop} : Ok (cnz y k) P ↔ ¬ y = 0 ∧ Ok k P := by
  constructor
  · intro ⟨r, e, h⟩
    obtain ⟨h1, h2⟩ := cnz_in e
    exact ⟨h1, r, h2, h⟩
  · intro ⟨h1, h2⟩
    unfold cnz
    rw [if_neg h1]
    exact h2
theorem Ok_cbl {R : Type} {v : Int32} {k : Option R} {P : R → Prop} : Ok (cbl v k) P ↔ (v = 0 ∨ v = 1) ∧ Ok k P := by
  constructor
  · intro ⟨r, e, h⟩
    unfold cbl at e
    split at e
    · next g => exact ⟨g, r, e, h⟩
    · cases e
  · intro ⟨h1, h2⟩
    unfold cbl
    rw [if_pos h1]
    exact h2
theorem Ok_ccp {R : Type} {sp dp n : Int32} {n0 n1 : Nat} {k : Option R} {P : R → Prop} : Ok (ccp sp dp n n0 n1 k) P ↔ ((¬ sp < 0 ∧ ¬ dp < 0 ∧ ¬ n < 0) ∧ sp.toNatClampNeg + n.toNatClampNeg ≤ n0 ∧ dp.toNatClampNeg + n.toNatClampNeg ≤ n1) ∧ Ok k P := by
  constructor
  · intro ⟨r, e, h⟩
    obtain ⟨h1, h2⟩ := ccp_in e
    exact ⟨h1, r, h2, h⟩
  · intro ⟨h1, h2⟩
    unfold ccp
    rw [if_pos h1]
    exact h2
theorem Ok_bind {R S : Type} {o : Option S} {k : S → Option R} {P : R → Prop} : Ok (o.bind k) P ↔ Ok o (fun z => Ok (k z) P) := by
  constructor
  · intro ⟨r, e, h⟩
    obtain ⟨z, h1, h2⟩ := obd e
    exact ⟨z, h1, r, h2, h⟩
  · intro ⟨z, h1, r, h2, h⟩
    exact ⟨r, by rw [h1]; exact h2, h⟩
theorem Ok.mono {R : Type} {o : Option R} {P Q : R → Prop} (h : Ok o P) (hPQ : ∀ r, P r → Q r) : Ok o Q := by
  obtain ⟨r, e, hr⟩ := h
  exact ⟨r, e, hPQ r hr⟩
theorem Ok_eq {R : Type} {o o' : Option R} {P : R → Prop} (e : o = o') (h : Ok o' P) : Ok o P := e ▸ h
/-- a loop, by an invariant with a falling number -/
theorem Ok_lc1 {R : Type} {T1 : Type} {step : T1 → (T1 → Option R) → Option R} {P : R → Prop} (I : Nat → T1 → Prop) (hs : ∀ (n : Nat) (x1 : T1) (κ : T1 → Option R), I n x1 → (∀ (m : Nat) (y1 : T1), m < n → I m y1 → Ok (κ y1) P) → Ok (step x1 κ) P) : ∀ (f n : Nat) (x1 : T1), n < f → I n x1 → Ok (lc1 step f x1) P
  | 0, n, x1, h, _ => absurd h (Nat.not_lt_zero n)
  | f + 1, n, x1, h, hi => hs n x1 (lc1 step f) hi (fun m y1 hm hI => Ok_lc1 I hs f m y1 (by omega) hI)
/-- a loop, by an invariant with a falling number -/
theorem Ok_lc2 {R : Type} {T1 T2 : Type} {step : T1 → T2 → (T1 → T2 → Option R) → Option R} {P : R → Prop} (I : Nat → T1 → T2 → Prop) (hs : ∀ (n : Nat) (x1 : T1) (x2 : T2) (κ : T1 → T2 → Option R), I n x1 x2 → (∀ (m : Nat) (y1 : T1) (y2 : T2), m < n → I m y1 y2 → Ok (κ y1 y2) P) → Ok (step x1 x2 κ) P) : ∀ (f n : Nat) (x1 : T1) (x2 : T2), n < f → I n x1 x2 → Ok (lc2 step f x1 x2) P
  | 0, n, x1, x2, h, _ => absurd h (Nat.not_lt_zero n)
  | f + 1, n, x1, x2, h, hi => hs n x1 x2 (lc2 step f) hi (fun m y1 y2 hm hI => Ok_lc2 I hs f m y1 y2 (by omega) hI)
/-- a loop, by an invariant with a falling number -/
theorem Ok_lc3 {R : Type} {T1 T2 T3 : Type} {step : T1 → T2 → T3 → (T1 → T2 → T3 → Option R) → Option R} {P : R → Prop} (I : Nat → T1 → T2 → T3 → Prop) (hs : ∀ (n : Nat) (x1 : T1) (x2 : T2) (x3 : T3) (κ : T1 → T2 → T3 → Option R), I n x1 x2 x3 → (∀ (m : Nat) (y1 : T1) (y2 : T2) (y3 : T3), m < n → I m y1 y2 y3 → Ok (κ y1 y2 y3) P) → Ok (step x1 x2 x3 κ) P) : ∀ (f n : Nat) (x1 : T1) (x2 : T2) (x3 : T3), n < f → I n x1 x2 x3 → Ok (lc3 step f x1 x2 x3) P
  | 0, n, x1, x2, x3, h, _ => absurd h (Nat.not_lt_zero n)
  | f + 1, n, x1, x2, x3, h, hi => hs n x1 x2 x3 (lc3 step f) hi (fun m y1 y2 y3 hm hI => Ok_lc3 I hs f m y1 y2 y3 (by omega) hI)
/-- a loop, by an invariant with a falling number -/
theorem Ok_lc4 {R : Type} {T1 T2 T3 T4 : Type} {step : T1 → T2 → T3 → T4 → (T1 → T2 → T3 → T4 → Option R) → Option R} {P : R → Prop} (I : Nat → T1 → T2 → T3 → T4 → Prop) (hs : ∀ (n : Nat) (x1 : T1) (x2 : T2) (x3 : T3) (x4 : T4) (κ : T1 → T2 → T3 → T4 → Option R), I n x1 x2 x3 x4 → (∀ (m : Nat) (y1 : T1) (y2 : T2) (y3 : T3) (y4 : T4), m < n → I m y1 y2 y3 y4 → Ok (κ y1 y2 y3 y4) P) → Ok (step x1 x2 x3 x4 κ) P) : ∀ (f n : Nat) (x1 : T1) (x2 : T2) (x3 : T3) (x4 : T4), n < f → I n x1 x2 x3 x4 → Ok (lc4 step f x1 x2 x3 x4) P
  | 0, n, x1, x2, x3, x4, h, _ => absurd h (Nat.not_lt_zero n)
  | f + 1, n, x1, x2, x3, x4, h, hi => hs n x1 x2 x3 x4 (lc4 step f) hi (fun m y1 y2 y3 y4 hm hI => Ok_lc4 I hs f m y1 y2 y3 y4 (by omega) hI)
/-- a loop, by an invariant with a falling number -/
theorem Ok_lc5 {R : Type} {T1 T2 T3 T4 T5 : Type} {step : T1 → T2 → T3 → T4 → T5 → (T1 → T2 → T3 → T4 → T5 → Option R) → Option R} {P : R → Prop} (I : Nat → T1 → T2 → T3 → T4 → T5 → Prop) (hs : ∀ (n : Nat) (x1 : T1) (x2 : T2) (x3 : T3) (x4 : T4) (x5 : T5) (κ : T1 → T2 → T3 → T4 → T5 → Option R), I n x1 x2 x3 x4 x5 → (∀ (m : Nat) (y1 : T1) (y2 : T2) (y3 : T3) (y4 : T4) (y5 : T5), m < n → I m y1 y2 y3 y4 y5 → Ok (κ y1 y2 y3 y4 y5) P) → Ok (step x1 x2 x3 x4 x5 κ) P) : ∀ (f n : Nat) (x1 : T1) (x2 : T2) (x3 : T3) (x4 : T4) (x5 : T5), n < f → I n x1 x2 x3 x4 x5 → Ok (lc5 step f x1 x2 x3 x4 x5) P
  | 0, n, x1, x2, x3, x4, x5, h, _ => absurd h (Nat.not_lt_zero n)
  | f + 1, n, x1, x2, x3, x4, x5, h, hi => hs n x1 x2 x3 x4 x5 (lc5 step f) hi (fun m y1 y2 y3 y4 y5 hm hI => Ok_lc5 I hs f m y1 y2 y3 y4 y5 (by omega) hI)
/-- a loop, by an invariant with a falling number -/
theorem Ok_lc6 {R : Type} {T1 T2 T3 T4 T5 T6 : Type} {step : T1 → T2 → T3 → T4 → T5 → T6 → (T1 → T2 → T3 → T4 → T5 → T6 → Option R) → Option R} {P : R → Prop} (I : Nat → T1 → T2 → T3 → T4 → T5 → T6 → Prop) (hs : ∀ (n : Nat) (x1 : T1) (x2 : T2) (x3 : T3) (x4 : T4) (x5 : T5) (x6 : T6) (κ : T1 → T2 → T3 → T4 → T5 → T6 → Option R), I n x1 x2 x3 x4 x5 x6 → (∀ (m : Nat) (y1 : T1) (y2 : T2) (y3 : T3) (y4 : T4) (y5 : T5) (y6 : T6), m < n → I m y1 y2 y3 y4 y5 y6 → Ok (κ y1 y2 y3 y4 y5 y6) P) → Ok (step x1 x2 x3 x4 x5 x6 κ) P) : ∀ (f n : Nat) (x1 : T1) (x2 : T2) (x3 : T3) (x4 : T4) (x5 : T5) (x6 : T6), n < f → I n x1 x2 x3 x4 x5 x6 → Ok (lc6 step f x1 x2 x3 x4 x5 x6) P
  | 0, n, x1, x2, x3, x4, x5, x6, h, _ => absurd h (Nat.not_lt_zero n)
  | f + 1, n, x1, x2, x3, x4, x5, x6, h, hi => hs n x1 x2 x3 x4 x5 x6 (lc6 step f) hi (fun m y1 y2 y3 y4 y5 y6 hm hI => Ok_lc6 I hs f m y1 y2 y3 y4 y5 y6 (by omega) hI)
/-- a loop, by an invariant with a falling number -/
theorem Ok_lc7 {R : Type} {T1 T2 T3 T4 T5 T6 T7 : Type} {step : T1 → T2 → T3 → T4 → T5 → T6 → T7 → (T1 → T2 → T3 → T4 → T5 → T6 → T7 → Option R) → Option R} {P : R → Prop} (I : Nat → T1 → T2 → T3 → T4 → T5 → T6 → T7 → Prop) (hs : ∀ (n : Nat) (x1 : T1) (x2 : T2) (x3 : T3) (x4 : T4) (x5 : T5) (x6 : T6) (x7 : T7) (κ : T1 → T2 → T3 → T4 → T5 → T6 → T7 → Option R), I n x1 x2 x3 x4 x5 x6 x7 → (∀ (m : Nat) (y1 : T1) (y2 : T2) (y3 : T3) (y4 : T4) (y5 : T5) (y6 : T6) (y7 : T7), m < n → I m y1 y2 y3 y4 y5 y6 y7 → Ok (κ y1 y2 y3 y4 y5 y6 y7) P) → Ok (step x1 x2 x3 x4 x5 x6 x7 κ) P) : ∀ (f n : Nat) (x1 : T1) (x2 : T2) (x3 : T3) (x4 : T4) (x5 : T5) (x6 : T6) (x7 : T7), n < f → I n x1 x2 x3 x4 x5 x6 x7 → Ok (lc7 step f x1 x2 x3 x4 x5 x6 x7) P
  | 0, n, x1, x2, x3, x4, x5, x6, x7, h, _ => absurd h (Nat.not_lt_zero n)
  | f + 1, n, x1, x2, x3, x4, x5, x6, x7, h, hi => hs n x1 x2 x3 x4 x5 x6 x7 (lc7 step f) hi (fun m y1 y2 y3 y4 y5 y6 y7 hm hI => Ok_lc7 I hs f m y1 y2 y3 y4 y5 y6 y7 (by omega) hI)
/-- a loop, by an invariant with a falling number -/
theorem Ok_lc8 {R : Type} {T1 T2 T3 T4 T5 T6 T7 T8 : Type} {step : T1 → T2 → T3 → T4 → T5 → T6 → T7 → T8 → (T1 → T2 → T3 → T4 → T5 → T6 → T7 → T8 → Option R) → Option R} {P : R → Prop} (I : Nat → T1 → T2 → T3 → T4 → T5 → T6 → T7 → T8 → Prop) (hs : ∀ (n : Nat) (x1 : T1) (x2 : T2) (x3 : T3) (x4 : T4) (x5 : T5) (x6 : T6) (x7 : T7) (x8 : T8) (κ : T1 → T2 → T3 → T4 → T5 → T6 → T7 → T8 → Option R), I n x1 x2 x3 x4 x5 x6 x7 x8 → (∀ (m : Nat) (y1 : T1) (y2 : T2) (y3 : T3) (y4 : T4) (y5 : T5) (y6 : T6) (y7 : T7) (y8 : T8), m < n → I m y1 y2 y3 y4 y5 y6 y7 y8 → Ok (κ y1 y2 y3 y4 y5 y6 y7 y8) P) → Ok (step x1 x2 x3 x4 x5 x6 x7 x8 κ) P) : ∀ (f n : Nat) (x1 : T1) (x2 : T2) (x3 : T3) (x4 : T4) (x5 : T5) (x6 : T6) (x7 : T7) (x8 : T8), n < f → I n x1 x2 x3 x4 x5 x6 x7 x8 → Ok (lc8 step f x1 x2 x3 x4 x5 x6 x7 x8) P
  | 0, n, x1, x2, x3, x4, x5, x6, x7, x8, h, _ => absurd h (Nat.not_lt_zero n)
  | f + 1, n, x1, x2, x3, x4, x5, x6, x7, x8, h, hi => hs n x1 x2 x3 x4 x5 x6 x7 x8 (lc8 step f) hi (fun m y1 y2 y3 y4 y5 y6 y7 y8 hm hI => Ok_lc8 I hs f m y1 y2 y3 y4 y5 y6 y7 y8 (by omega) hI)
/-! numbers -/
def J (z : Int) : Int32 := Int32.ofInt z
theorem J_nI (n : Nat) : nI n = J n := rfl
theorem J_add (a b : Int) : J a + J b = J (a + b) := (Int32.ofInt_add a b).symm
theorem J_sub (a b : Int) : J a - J b = J (a - b) := (Int32.ofInt_sub a b).symm
theorem J_mul (a b : Int) : J a * J b = J (a * b) := (Int32.ofInt_mul a b).symm
theorem J_neg (a : Int) : - J a = J (-a) := (Int32.ofInt_neg a).symm
/-- small enough -/
def sm (a : Int) : Prop := -1000000000 ≤ a ∧ a ≤ 1000000000
theorem J_toInt {a : Int} (h : sm a) : (J a).toInt = a := by
  unfold J
  exact Int32.toInt_ofInt_of_le (by unfold sm at h; simp; omega) (by unfold sm at h; simp; omega)
theorem J_eq {a b : Int} (ha : sm a) (hb : sm b) : J a = J b ↔ a = b := by
  constructor
  · intro h
    rw [← J_toInt ha, ← J_toInt hb, h]
  · intro h; rw [h]
theorem J_lt {a b : Int} (ha : sm a) (hb : sm b) : J a < J b ↔ a < b := by
  rw [Int32.lt_iff_toInt_lt, J_toInt ha, J_toInt hb]
theorem J_le {a b : Int} (ha : sm a) (hb : sm b) : J a ≤ J b ↔ a ≤ b := by
  rw [Int32.le_iff_toInt_le, J_toInt ha, J_toInt hb]
theorem J_cl {a : Int} (ha : sm a) : (J a).toNatClampNeg = a.toNat := by
  show (J a).toInt.toNat = _
  rw [J_toInt ha]
theorem J_in {a : Int} {n : Nat} (ha : sm a) : vp_in (J a) n ↔ 0 ≤ a ∧ a < n := by
  rw [vp_in_iff, J_toInt ha]
