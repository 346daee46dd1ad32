/-! ===== the packet, in numbers ===== -/
/-- q = 0: x, 1: y, 2: layer, 3: front up; cell; 0 outside -/
abbrev Pk : Type := Nat → Nat → Int
/-- how many of the first n -/
def cnt (p : Nat → Bool) : Nat → Int
  | 0 => 0
  | n + 1 => cnt p n + (if p n then 1 else 0)
theorem cnt_succ (p : Nat → Bool) (n : Nat) : cnt p (n + 1) = cnt p n + (if p n then 1 else 0) := rfl
theorem cnt_cong {p q : Nat → Bool} : ∀ {n : Nat}, (∀ k, k < n → p k = q k) → cnt p n = cnt q n
  | 0, _ => rfl
  | n + 1, h => by rw [cnt_succ, cnt_succ, cnt_cong (fun k hk => h k (by omega)), h n (by omega)]
theorem cnt_nonneg (p : Nat → Bool) : ∀ n, 0 ≤ cnt p n
  | 0 => Int.le_refl 0
  | n + 1 => by
    have h := cnt_nonneg p n
    rw [cnt_succ]
    split <;> omega
theorem cnt_le (p : Nat → Bool) : ∀ n : Nat, cnt p n ≤ n
  | 0 => Int.le_refl 0
  | n + 1 => by
    have h := cnt_le p n
    rw [cnt_succ]
    split <;> omega
theorem cnt_or {p q : Nat → Bool} : ∀ {n : Nat}, (∀ k, k < n → ¬ (p k = true ∧ q k = true)) → cnt (fun k => p k || q k) n = cnt p n + cnt q n
  | 0, _ => rfl
  | n + 1, h => by
    rw [cnt_succ, cnt_succ, cnt_succ, cnt_or (fun k hk => h k (by omega))]
    have h1 := h n (by omega)
    cases hp : p n <;> cases hq : q n <;> simp_all <;> omega
theorem cnt_pos {p : Nat → Bool} : ∀ {n c : Nat}, c < n → p c = true → 1 ≤ cnt p n
  | 0, c, h, _ => by omega
  | n + 1, c, h, hp => by
    rw [cnt_succ]
    rcases Nat.lt_or_ge c n with g | g
    · have := cnt_pos g hp
      split <;> omega
    · have e : c = n := by omega
      subst e
      have := cnt_nonneg p c
      rw [hp]
      simp
      omega
/-- how many lie at a place, told along an axis and across it -/
def hA (n : Nat) (P : Pk) (a : Nat) (u v : Int) : Int := cnt (fun c => decide (P a c = u) && decide (P (1 - a) c = v)) n
theorem hA_nonneg (n : Nat) (P : Pk) (a : Nat) (u v : Int) : 0 ≤ hA n P a u v := cnt_nonneg _ _
theorem hA_le (n : Nat) (P : Pk) (a : Nat) (u v : Int) : hA n P a u v ≤ n := cnt_le _ _
theorem hA_swap (n : Nat) (P : Pk) (u v : Int) : hA n P 1 u v = hA n P 0 v u := cnt_cong (fun k _ => Bool.and_comm _ _)
/-- the fold: axis, line, part, over -/
def mgo (P : Pk) (a : Nat) (ln : Int) (pt : Bool) (c : Nat) : Bool := if pt then decide (ln ≤ P a c) else decide (P a c < ln)
def mmi (P : Pk) (a : Nat) (ln : Int) (c : Nat) : Int := 2 * ln - 1 - P a c
def msh (e : Nat → Int) (a : Nat) (ln : Int) (pt : Bool) : Int := if pt then (if 0 < e a - 2 * ln then e a - 2 * ln else 0) else - ln
def mf (n : Nat) (e : Nat → Int) (P : Pk) (a : Nat) (ln : Int) (pt ov : Bool) : Pk := fun q c =>
  if c < n then
    if q = a then (if mgo P a ln pt c then mmi P a ln c else P a c) + msh e a ln pt
    else if q = 2 then
      (if mgo P a ln pt c then (if ov then hA n P a (mmi P a ln c) (P (1 - a) c) else 0) + (hA n P a (P a c) (P (1 - a) c) - 1 - P 2 c)
       else P 2 c + (if ov then 0 else hA n P a (mmi P a ln c) (P (1 - a) c)))
    else if q = 3 then (if mgo P a ln pt c then 1 - P 3 c else P 3 c)
    else if q = 1 - a then P (1 - a) c
    else 0
  else 0
def me (e : Nat → Int) (a : Nat) (ln : Int) : Nat → Int := fun q => if q = a then (if e a - ln < ln then ln else e a - ln) else e q
/-- the whole turned about an axis -/
def rt (n : Nat) (e : Nat → Int) (P : Pk) (a : Nat) : Pk := fun q c =>
  if c < n then
    if q = a then e a - 1 - P a c
    else if q = 2 then hA n P a (P a c) (P (1 - a) c) - 1 - P 2 c
    else if q = 3 then 1 - P 3 c
    else if q = 1 - a then P (1 - a) c
    else 0
  else 0
/-- in range, every column inhabited, the layers of a place apart and within its height -/
def WF (n : Nat) (e : Nat → Int) (P : Pk) : Prop :=
  (n ≤ 16 ∧ ∀ a, a < 2 → 1 ≤ e a ∧ e a ≤ 4) ∧ (∀ c, c < n → ∀ a, a < 2 → 0 ≤ P a c ∧ P a c < e a) ∧ (∀ a, a < 2 → ∀ u : Int, 0 ≤ u → u < e a → ∃ c, c < n ∧ P a c = u) ∧
  (∀ c, c < n → 0 ≤ P 2 c ∧ P 2 c < hA n P 0 (P 0 c) (P 1 c)) ∧ (∀ c d, c < n → d < n → P 0 c = P 0 d → P 1 c = P 1 d → P 2 c = P 2 d → c = d) ∧ (∀ c, c < n → P 3 c = 0 ∨ P 3 c = 1)
/-- how two touch -/
def tch (P : Pk) (c d : Nat) : Int := if P 0 c = P 0 d ∧ P 1 c = P 1 d ∧ (P 2 c - P 2 d = 1 ∨ P 2 d - P 2 c = 1) then (if P 3 c = P 3 d then 3 else if P 2 c < P 2 d then (if P 3 c = 1 then 1 else 2) else (if P 3 d = 1 then 1 else 2)) else 0
theorem tch_comm (P : Pk) (c d : Nat) : tch P c d = tch P d c := by
  unfold tch
  by_cases h : P 0 c = P 0 d ∧ P 1 c = P 1 d ∧ (P 2 c - P 2 d = 1 ∨ P 2 d - P 2 c = 1)
  · rw [if_pos h, if_pos ⟨h.1.symm, h.2.1.symm, h.2.2.symm⟩]
    by_cases h3 : P 3 c = P 3 d
    · rw [if_pos h3, if_pos h3.symm]
    · rw [if_neg h3, if_neg (Ne.symm h3)]
      rcases h.2.2 with g | g
      · rw [if_neg (by omega), if_pos (by omega)]
      · rw [if_pos (by omega), if_neg (by omega)]
  · rw [if_neg h, if_neg (fun g => h ⟨g.1.symm, g.2.1.symm, g.2.2.symm⟩)]
