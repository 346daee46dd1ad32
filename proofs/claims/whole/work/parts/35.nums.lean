/-! ===== numbers, loops by counting, contents ===== -/
theorem L0 : (0 : Int32) = J 0 := by decide +kernel
theorem L1 : (1 : Int32) = J 1 := by decide +kernel
theorem L2 : (2 : Int32) = J 2 := by decide +kernel
theorem L3 : (3 : Int32) = J 3 := by decide +kernel
theorem L4 : (4 : Int32) = J 4 := by decide +kernel
theorem L5 : (5 : Int32) = J 5 := by decide +kernel
theorem L6 : (6 : Int32) = J 6 := by decide +kernel
theorem L7 : (7 : Int32) = J 7 := by decide +kernel
theorem L8 : (8 : Int32) = J 8 := by decide +kernel
theorem L9 : (9 : Int32) = J 9 := by decide +kernel
theorem L10 : (10 : Int32) = J 10 := by decide +kernel
theorem L11 : (11 : Int32) = J 11 := by decide +kernel
theorem L12 : (12 : Int32) = J 12 := by decide +kernel
theorem L16 : (16 : Int32) = J 16 := by decide +kernel
theorem L21 : (21 : Int32) = J 21 := by decide +kernel
theorem L22 : (22 : Int32) = J 22 := by decide +kernel
theorem L24 : (24 : Int32) = J 24 := by decide +kernel
theorem L28 : (28 : Int32) = J 28 := by decide +kernel
theorem L32 : (32 : Int32) = J 32 := by decide +kernel
theorem L35 : (35 : Int32) = J 35 := by decide +kernel
theorem L40 : (40 : Int32) = J 40 := by decide +kernel
theorem L48 : (48 : Int32) = J 48 := by decide +kernel
theorem L57 : (57 : Int32) = J 57 := by decide +kernel
theorem L59 : (59 : Int32) = J 59 := by decide +kernel
theorem L64 : (64 : Int32) = J 64 := by decide +kernel
theorem L97 : (97 : Int32) = J 97 := by decide +kernel
theorem L100 : (100 : Int32) = J 100 := by decide +kernel
theorem L122 : (122 : Int32) = J 122 := by decide +kernel
theorem L200 : (200 : Int32) = J 200 := by decide +kernel
theorem L1000000 : (1000000 : Int32) = J 1000000 := by decide +kernel
theorem jI {a : Int} (h : -2147483648 ≤ a ∧ a ≤ 2147483647) : (J a).toInt = a := by
  unfold J
  exact Int32.toInt_ofInt_of_le (by simp; omega) (by simp; omega)
theorem jlt {a b : Int} (ha : -2147483648 ≤ a ∧ a ≤ 2147483647) (hb : -2147483648 ≤ b ∧ b ≤ 2147483647) : J a < J b ↔ a < b := by
  rw [Int32.lt_iff_toInt_lt, jI ha, jI hb]
theorem jle {a b : Int} (ha : -2147483648 ≤ a ∧ a ≤ 2147483647) (hb : -2147483648 ≤ b ∧ b ≤ 2147483647) : J a ≤ J b ↔ a ≤ b := by
  rw [Int32.le_iff_toInt_le, jI ha, jI hb]
theorem jeq {a b : Int} (ha : -2147483648 ≤ a ∧ a ≤ 2147483647) (hb : -2147483648 ≤ b ∧ b ≤ 2147483647) : J a = J b ↔ a = b := by
  constructor
  · intro h
    rw [← jI ha, ← jI hb, h]
  · intro h; rw [h]
theorem jcl {a : Int} (ha : -2147483648 ≤ a ∧ a ≤ 2147483647) : (J a).toNatClampNeg = a.toNat := by
  show (J a).toInt.toNat = _
  rw [jI ha]
theorem j_of (x : Int32) : ∃ a : Int, x = J a ∧ -2147483648 ≤ a ∧ a ≤ 2147483647 := ⟨x.toInt, (Int32.ofInt_toInt x).symm, Int32.le_toInt x, Int32.toInt_le x⟩
theorem chk_J {R : Type} {a : Int} {n : Nat} {k : Option R} (h : 0 ≤ a ∧ a < n ∧ a ≤ 2147483647) : chk (J a) n k = k := by
  unfold chk
  have : vp_in (J a) n := by
    rw [vp_in_iff, jI (by omega)]
    omega
  rw [if_neg this]
theorem Ok_eqs {R : Type} {o : Option R} {v : R} : Ok o (fun r => r = v) ↔ o = some v := ⟨fun ⟨r, h, e⟩ => by rw [h, e], fun h => ⟨v, h, rfl⟩⟩
theorem sgs (σ : Sg) (k j : Nat) (v : Int32) (i : Nat) : (sg_st σ k j v) k i = if i = j then v else σ k i := by
  unfold sg_st upd; rw [if_pos rfl]
theorem sgn {σ : Sg} {k q : Nat} (h : q ≠ k) (j : Nat) (v : Int32) (i : Nat) : (sg_st σ k j v) q i = σ q i := by
  unfold sg_st; rw [if_neg h]
theorem sas (σ : Sg) (k : Nat) (f : Nat → Int32) (i : Nat) : (sg_ar σ k f) k i = f i := by
  unfold sg_ar; rw [if_pos rfl]
theorem san {σ : Sg} {k q : Nat} (h : q ≠ k) (f : Nat → Int32) (i : Nat) : (sg_ar σ k f) q i = σ q i := by
  unfold sg_ar; rw [if_neg h]
theorem sps {σ τ : Sg} {b n q : Nat} (h : b ≤ q ∧ q < b + n) (i : Nat) : (sg_sp σ b n τ) q i = τ (q - b) i := by
  unfold sg_sp; rw [if_pos h]
theorem spn {σ τ : Sg} {b n q : Nat} (h : ¬ (b ≤ q ∧ q < b + n)) (i : Nat) : (sg_sp σ b n τ) q i = σ q i := by
  unfold sg_sp; rw [if_neg h]
theorem sof (σ : Sg) (n q i : Nat) : (sg_off σ n) q i = σ (n + q) i := rfl
theorem Ok_for1 {R : Type} {step : Int32 → (Int32 → Option R) → Option R} {P : R → Prop} (N : Nat) (I : Nat → Prop) (hs : ∀ (k : Nat) (κ : Int32 → Option R), k < N → I k → (I (k + 1) → Ok (κ (J ((k : Int) + 1))) P) → Ok (step (J k) κ) P) (he : ∀ (κ : Int32 → Option R), I N → Ok (step (J N) κ) P) : ∀ (f a : Nat), a ≤ N → N - a < f → I a → Ok (lc1 step f (J a)) P
  | 0, a, _, hf, _ => absurd hf (Nat.not_lt_zero _)
  | f + 1, a, ha, hf, hi => by
    rcases Nat.lt_or_ge a N with g | g
    · exact hs a _ g hi (fun h => Ok_for1 N I hs he f (a + 1) (by omega) (by omega) h)
    · have e : a = N := by omega
      subst e
      exact he _ hi
theorem Ok_for2 {R T : Type} {step : Int32 → T → (Int32 → T → Option R) → Option R} {P : R → Prop} (N : Nat) (I : Nat → T → Prop) (hs : ∀ (k : Nat) (g : T) (κ : Int32 → T → Option R), k < N → I k g → (∀ g', I (k + 1) g' → Ok (κ (J ((k : Int) + 1)) g') P) → Ok (step (J k) g κ) P) (he : ∀ (g : T) (κ : Int32 → T → Option R), I N g → Ok (step (J N) g κ) P) : ∀ (f a : Nat) (g : T), a ≤ N → N - a < f → I a g → Ok (lc2 step f (J a) g) P
  | 0, a, _, _, hf, _ => absurd hf (Nat.not_lt_zero _)
  | f + 1, a, g, ha, hf, hi => by
    rcases Nat.lt_or_ge a N with h | h
    · exact hs a g _ h hi (fun g' hg => Ok_for2 N I hs he f (a + 1) g' (by omega) (by omega) hg)
    · have e : a = N := by omega
      subst e
      exact he _ _ hi
theorem Ok_for2r {R T : Type} {step : T → Int32 → (T → Int32 → Option R) → Option R} {P : R → Prop} (N : Nat) (I : Nat → T → Prop) (hs : ∀ (k : Nat) (g : T) (κ : T → Int32 → Option R), k < N → I k g → (∀ g', I (k + 1) g' → Ok (κ g' (J ((k : Int) + 1))) P) → Ok (step g (J k) κ) P) (he : ∀ (g : T) (κ : T → Int32 → Option R), I N g → Ok (step g (J N) κ) P) : ∀ (f a : Nat) (g : T), a ≤ N → N - a < f → I a g → Ok (lc2 step f g (J a)) P
  | 0, a, _, _, hf, _ => absurd hf (Nat.not_lt_zero _)
  | f + 1, a, g, ha, hf, hi => by
    rcases Nat.lt_or_ge a N with h | h
    · exact hs a g _ h hi (fun g' hg => Ok_for2r N I hs he f (a + 1) g' (by omega) (by omega) hg)
    · have e : a = N := by omega
      subst e
      exact he _ _ hi
theorem Ok_for3 {R T1 T2 : Type} {step : T1 → Int32 → T2 → (T1 → Int32 → T2 → Option R) → Option R} {P : R → Prop} (N : Nat) (I : Nat → T1 → T2 → Prop) (hs : ∀ (k : Nat) (x : T1) (g : T2) (κ : T1 → Int32 → T2 → Option R), k < N → I k x g → (∀ x' g', I (k + 1) x' g' → Ok (κ x' (J ((k : Int) + 1)) g') P) → Ok (step x (J k) g κ) P) (he : ∀ (x : T1) (g : T2) (κ : T1 → Int32 → T2 → Option R), I N x g → Ok (step x (J N) g κ) P) : ∀ (f a : Nat) (x : T1) (g : T2), a ≤ N → N - a < f → I a x g → Ok (lc3 step f x (J a) g) P
  | 0, a, _, _, _, hf, _ => absurd hf (Nat.not_lt_zero _)
  | f + 1, a, x, g, ha, hf, hi => by
    rcases Nat.lt_or_ge a N with h | h
    · exact hs a x g _ h hi (fun x' g' hg => Ok_for3 N I hs he f (a + 1) x' g' (by omega) (by omega) hg)
    · have e : a = N := by omega
      subst e
      exact he _ _ _ hi
theorem Ok_for4 {R T1 T2 T3 : Type} {step : T1 → T2 → Int32 → T3 → (T1 → T2 → Int32 → T3 → Option R) → Option R} {P : R → Prop} (N : Nat) (I : Nat → T1 → T2 → T3 → Prop) (hs : ∀ (k : Nat) (x : T1) (y : T2) (g : T3) (κ : T1 → T2 → Int32 → T3 → Option R), k < N → I k x y g → (∀ x' y' g', I (k + 1) x' y' g' → Ok (κ x' y' (J ((k : Int) + 1)) g') P) → Ok (step x y (J k) g κ) P) (he : ∀ (x : T1) (y : T2) (g : T3) (κ : T1 → T2 → Int32 → T3 → Option R), I N x y g → Ok (step x y (J N) g κ) P) : ∀ (f a : Nat) (x : T1) (y : T2) (g : T3), a ≤ N → N - a < f → I a x y g → Ok (lc4 step f x y (J a) g) P
  | 0, a, _, _, _, _, hf, _ => absurd hf (Nat.not_lt_zero _)
  | f + 1, a, x, y, g, ha, hf, hi => by
    rcases Nat.lt_or_ge a N with h | h
    · exact hs a x y g _ h hi (fun x' y' g' hg => Ok_for4 N I hs he f (a + 1) x' y' g' (by omega) (by omega) hg)
    · have e : a = N := by omega
      subst e
      exact he _ _ _ _ hi
theorem J0 : J ((0 : Nat) : Int) = 0 := by decide +kernel
/-! a fold's number -/
theorem cd_ax {k : Nat} (h : k < 24) : J k &&& J 1 = J ((k % 2 : Nat) : Int) := by
  have : ∀ k : Fin 24, J (k.1 : Int) &&& J 1 = J ((k.1 % 2 : Nat) : Int) := by decide +kernel
  exact this ⟨k, h⟩
theorem cd_ln {k : Nat} (h : k < 24) : J k >>> (J 3 &&& 31) + J 1 = J (kln k) := by
  have : ∀ k : Fin 24, J (k.1 : Int) >>> (J 3 &&& 31) + J 1 = J (((k.1 / 8 : Nat) : Int) + 1) := by decide +kernel
  exact this ⟨k, h⟩
theorem cd_pt {k : Nat} (h : k < 24) : (J k >>> (J 1 &&& 31)) &&& J 1 = J ((k / 2 % 2 : Nat) : Int) := by
  have : ∀ k : Fin 24, (J (k.1 : Int) >>> (J 1 &&& 31)) &&& J 1 = J ((k.1 / 2 % 2 : Nat) : Int) := by decide +kernel
  exact this ⟨k, h⟩
theorem cd_ov {k : Nat} (h : k < 24) : (J k >>> (J 2 &&& 31)) &&& J 1 = J ((k / 4 % 2 : Nat) : Int) := by
  have : ∀ k : Fin 24, (J (k.1 : Int) >>> (J 2 &&& 31)) &&& J 1 = J ((k.1 / 4 % 2 : Nat) : Int) := by decide +kernel
  exact this ⟨k, h⟩
theorem cd_dv {k : Nat} (h : k < 24) : J k / J 8 + J 1 = J (kln k) := by
  have : ∀ k : Fin 24, J (k.1 : Int) / J 8 + J 1 = J (((k.1 / 8 : Nat) : Int) + 1) := by decide +kernel
  exact this ⟨k, h⟩
theorem J_div {a b : Nat} (ha : a ≤ 1000000000) (hb : 1 ≤ b) (hb2 : b ≤ 1000000000) : J a / J b = J ((a / b : Nat) : Int) := by
  rw [← Int32.toInt_inj, Int32.toInt_div_of_ne_left]
  · rw [J_toInt (by unfold sm; omega), J_toInt (by unfold sm; omega), J_toInt (by unfold sm; have h := Nat.div_le_self a b; generalize a / b = q at h ⊢; omega)]
    rfl
  · intro h
    have := congrArg Int32.toInt h
    rw [J_toInt (by unfold sm; omega)] at this
    have e : Int32.minValue.toInt = -2147483648 := by decide
    omega
/-! the contents of a packet -/
def HP (n : Nat) (S : St) (σ : Sg) : Prop := σ 0 0 = J n ∧ σ 0 1 = J (S.1 0) ∧ σ 0 2 = J (S.1 1) ∧ ∀ c, c < n → σ 1 c = J (S.2 0 c) ∧ σ 2 c = J (S.2 1 c) ∧ σ 3 c = J (S.2 2 c) ∧ σ 4 c = J (S.2 3 c)
theorem HP.cong {n : Nat} {S : St} {σ τ : Sg} (h : HP n S σ) (he : ∀ q, q < 5 → τ q = σ q) : HP n S τ := by
  unfold HP at *
  rw [he 0 (by omega), he 1 (by omega), he 2 (by omega), he 3 (by omega), he 4 (by omega)]
  exact h
/-- what is known of a cell -/
theorem WF.bd {n : Nat} {S : St} (w : WF n S) {c : Nat} (hc : c < n) : n ≤ 16 ∧ (0 ≤ S.2 0 c ∧ S.2 0 c < S.1 0) ∧ (0 ≤ S.2 1 c ∧ S.2 1 c < S.1 1) ∧ (0 ≤ S.2 2 c ∧ S.2 2 c < 16) ∧ (0 ≤ S.2 3 c ∧ S.2 3 c ≤ 1) ∧ (1 ≤ S.1 0 ∧ S.1 0 ≤ 4) ∧ (1 ≤ S.1 1 ∧ S.1 1 ≤ 4) := by
  obtain ⟨w1, w2, w3, w4, w5, w6, w7, w8, w9, w10, w11⟩ := w
  have h1 := w8 c hc
  have h2 := hh_le n (S.2 0) (S.2 1) (S.2 0 c) (S.2 1 c)
  have h3 := w10 c hc
  have h4 := w4 c hc
  have h5 := w5 c hc
  refine ⟨w1, h4, h5, ⟨h1.1, by omega⟩, ⟨by omega, by omega⟩, w2, w3⟩
