/-! ===== the text: where tokens begin and end ===== -/
def run (q : Int → Bool) (T : Nat → Int) (len : Nat) : Nat → Nat → Nat
  | 0, p => p
  | f + 1, p => if p < len ∧ q (T p) = true then run q T len f (p + 1) else p
def rn (q : Int → Bool) (T : Nat → Int) (len p : Nat) : Nat := run q T len (len - p) p
theorem rn_go {q : Int → Bool} {T : Nat → Int} {len p : Nat} (h1 : p < len) (h2 : q (T p) = true) : rn q T len p = rn q T len (p + 1) := by
  unfold rn
  rw [show len - p = (len - (p + 1)) + 1 by omega, run, if_pos ⟨h1, h2⟩]
theorem rn_st {q : Int → Bool} {T : Nat → Int} {len p : Nat} (h : ¬ (p < len ∧ q (T p) = true)) : rn q T len p = p := by
  unfold rn
  cases hl : len - p with
  | zero => rfl
  | succ f => rw [run, if_neg h]
theorem rn_ge {q : Int → Bool} {T : Nat → Int} {len : Nat} : ∀ {d p : Nat}, len - p ≤ d → p ≤ rn q T len p ∧ (p ≤ len → rn q T len p ≤ len) ∧ ¬ (rn q T len p < len ∧ q (T (rn q T len p)) = true) ∧ ∀ j, p ≤ j → j < rn q T len p → j < len ∧ q (T j) = true
  | 0, p, h => by
    have e : rn q T len p = p := rn_st (by omega)
    rw [e]
    exact ⟨Nat.le_refl _, fun h => h, by omega, fun j h1 h2 => by omega⟩
  | d + 1, p, h => by
    by_cases g : p < len ∧ q (T p) = true
    · rw [rn_go g.1 g.2]
      obtain ⟨h1, h2, h3, h4⟩ := rn_ge (q := q) (T := T) (len := len) (d := d) (p := p + 1) (by omega)
      refine ⟨by omega, fun _ => h2 (by omega), h3, fun j hj1 hj2 => ?_⟩
      by_cases e : j = p
      · rw [e]; exact g
      · exact h4 j (by omega) hj2
    · rw [rn_st g]
      exact ⟨Nat.le_refl _, fun h => h, g, fun j h1 h2 => by omega⟩
def isSp (b : Int) : Bool := decide (b = 32)
def isLe (b : Int) : Bool := decide (97 ≤ b ∧ b ≤ 122)
def isDi (b : Int) : Bool := decide (48 ≤ b ∧ b ≤ 57)
/-- the token from a place on: its first byte, its sort, the place behind it -/
def tS (T : Nat → Int) (len p : Nat) : Nat := rn isSp T len p
def tK (T : Nat → Int) (len p : Nat) : Nat := if len ≤ tS T len p then 0 else if isLe (T (tS T len p)) then 1 else if isDi (T (tS T len p)) then 2 else if T (tS T len p) = 59 then 3 else 4
def tE (T : Nat → Int) (len p : Nat) : Nat := if tK T len p = 0 then tS T len p else if tK T len p = 1 then rn isLe T len (tS T len p) else if tK T len p = 2 then rn isDi T len (tS T len p) else tS T len p + 1
def wB (w : Nat) : List Int := if w = 0 then [109, 97, 112] else if w = 1 then [119, 111, 114, 116, 104] else if w = 2 then [113, 117, 97, 114, 114, 101, 108] else [116, 101, 97, 114]
/-- whether a word's bytes lie between two places -/
def isW (T : Nat → Int) (s e w : Nat) : Bool := decide (e - s = (wB w).length) && (List.range (wB w).length).all (fun j => decide (T (s + j) = (wB w).getD j 0))
def wT (T : Nat → Int) (s e : Nat) : Nat := if isW T s e 0 then 4 else if isW T s e 1 then 5 else if isW T s e 2 then 6 else if isW T s e 3 then 7 else 1
/-- the class's token -/
def tT (T : Nat → Int) (len p : Nat) : Nat :=
  if tK T len p = 0 then 0 else if tK T len p = 1 then wT T (tS T len p) (tE T len p)
  else if tK T len p = 2 then (if 2 < tE T len p - tS T len p ∨ (1 < tE T len p - tS T len p ∧ T (tS T len p) = 48) then 1 else 2)
  else if tK T len p = 3 then 3 else 1
def tV (T : Nat → Int) (len p : Nat) : Int := if tE T len p - tS T len p = 1 then T (tS T len p) - 48 else 10 * (T (tS T len p) - 48) + T (tS T len p + 1) - 48
theorem tS_pr (T : Nat → Int) (len : Nat) {p : Nat} (hp : p ≤ len) : p ≤ tS T len p ∧ tS T len p ≤ len := by
  obtain ⟨h1, h2, -⟩ := rn_ge (q := isSp) (T := T) (len := len) (p := p) (Nat.le_refl _)
  exact ⟨h1, h2 hp⟩
theorem tE_pr (T : Nat → Int) (len : Nat) {p : Nat} (hp : p ≤ len) : tS T len p ≤ tE T len p ∧ tE T len p ≤ len ∧ (tK T len p ≠ 0 → tS T len p < tE T len p) := by
  obtain ⟨h1, h2⟩ := tS_pr T len hp
  have hK : (tK T len p = 0 ↔ len ≤ tS T len p) := by
    unfold tK; constructor
    · intro h; split at h
      · assumption
      · split at h
        · omega
        · split at h
          · omega
          · split at h <;> omega
    · intro h; rw [if_pos h]
  unfold tE
  by_cases k0 : tK T len p = 0
  · rw [if_pos k0]; exact ⟨Nat.le_refl _, h2, fun q => absurd k0 q⟩
  · have hlt : tS T len p < len := by omega
    rw [if_neg k0]
    by_cases k1 : tK T len p = 1
    · rw [if_pos k1]
      have hL : isLe (T (tS T len p)) = true := by
        unfold tK at k1; rw [if_neg (by omega)] at k1
        cases hq : isLe (T (tS T len p))
        · rw [hq] at k1; simp at k1; split at k1
          · omega
          · split at k1 <;> omega
        · rfl
      have e := rn_go hlt hL
      obtain ⟨g1, g2, -⟩ := rn_ge (q := isLe) (T := T) (len := len) (p := tS T len p + 1) (Nat.le_refl _)
      rw [e]
      exact ⟨by omega, g2 (by omega), fun _ => by omega⟩
    · rw [if_neg k1]
      by_cases k2 : tK T len p = 2
      · rw [if_pos k2]
        have hL : isDi (T (tS T len p)) = true := by
          unfold tK at k2; rw [if_neg (by omega)] at k2
          cases hq : isLe (T (tS T len p))
          · rw [hq] at k2; simp at k2
            cases hq2 : isDi (T (tS T len p))
            · rw [hq2] at k2; simp at k2; split at k2 <;> omega
            · rfl
          · rw [hq] at k2; simp at k2
        have e := rn_go hlt hL
        obtain ⟨g1, g2, -⟩ := rn_ge (q := isDi) (T := T) (len := len) (p := tS T len p + 1) (Nat.le_refl _)
        rw [e]
        exact ⟨by omega, g2 (by omega), fun _ => by omega⟩
      · rw [if_neg k2]; exact ⟨by omega, by omega, fun _ => by omega⟩
/-! the class's bytes -/
def HT7 (T : Nat → Int) (len : Nat) (σ : Sg) : Prop := len ≤ 200 ∧ σ 0 0 = J len ∧ ∀ j, j < len → σ 1 j = J (T j) ∧ 0 ≤ T j ∧ T j ≤ 255
def bt (T : Nat → Int) (len : Nat) (p : Nat) : Int := if p < len then T p else -1
theorem bt_bd {T : Nat → Int} {len : Nat} {σ : Sg} (h : HT7 T len σ) (p : Nat) : -1 ≤ bt T len p ∧ bt T len p ≤ 255 := by
  unfold bt; split
  · next q => have := (h.2.2 p q).2; omega
  · omega
theorem byte7_eq {T : Nat → Int} {len : Nat} {σ : Sg} (h : HT7 T len σ) {p : Nat} (hp : p ≤ 1000) : f_X7_byteAt σ (J p) = some (J (bt T len p)) := by
  obtain ⟨h1, h2, h3⟩ := h
  unfold bt
  simp (disch := omega) only [f_X7_byteAt, L0, L1, L2, L3, L4, L5, L6, L7, L8, L9, L10, L11, L12, L16, L21, L22, L24, L28, L32, L35, L40, L48, L57, L59, L64, L97, L100, L122, L200, L1000000, chk_J, jlt, jle, jeq, jcl, J_add, J_sub, J_mul, J_neg, Int.toNat_natCast, Option.bind_some, sgs, sgn, if_true, if_false, Int.toNat_zero, Int.toNat_one, h2]
  rw [if_neg (by omega)]
  by_cases q : p < len
  · rw [if_neg (by omega), if_neg (by omega), if_pos q, (h3 p q).1]
  · rw [if_pos (by omega), if_neg q]
theorem let7_eq {b : Int} (hb : -1 ≤ b ∧ b ≤ 255) : f_X7_isLetter (J b) = some (J (if isLe b then 1 else 0)) := by
  simp (disch := omega) only [f_X7_isLetter, L0, L1, L2, L3, L4, L5, L6, L7, L8, L9, L10, L11, L12, L16, L21, L22, L24, L28, L32, L35, L40, L48, L57, L59, L64, L97, L100, L122, L200, L1000000, chk_J, jlt, jle, jeq, jcl, J_add, J_sub, J_mul, J_neg, Int.toNat_natCast, Option.bind_some, sgs, sgn, if_true, if_false, Int.toNat_zero, Int.toNat_one]
  unfold isLe
  by_cases q : 97 ≤ b ∧ b ≤ 122
  · rw [if_neg (by omega), if_neg (by omega)]; simp [q]
  · by_cases q1 : b < 97
    · rw [if_pos q1, if_neg (by simp only [decide_eq_true_eq]; omega)]
    · rw [if_neg q1, if_pos (by omega), if_neg (by simp only [decide_eq_true_eq]; omega)]
theorem dig7_eq {b : Int} (hb : -1 ≤ b ∧ b ≤ 255) : f_X7_isDigit (J b) = some (J (if isDi b then 1 else 0)) := by
  simp (disch := omega) only [f_X7_isDigit, L0, L1, L2, L3, L4, L5, L6, L7, L8, L9, L10, L11, L12, L16, L21, L22, L24, L28, L32, L35, L40, L48, L57, L59, L64, L97, L100, L122, L200, L1000000, chk_J, jlt, jle, jeq, jcl, J_add, J_sub, J_mul, J_neg, Int.toNat_natCast, Option.bind_some, sgs, sgn, if_true, if_false, Int.toNat_zero, Int.toNat_one]
  unfold isDi
  by_cases q : 48 ≤ b ∧ b ≤ 57
  · rw [if_neg (by omega), if_neg (by omega)]; simp [q]
  · by_cases q1 : b < 48
    · rw [if_pos q1, if_neg (by simp only [decide_eq_true_eq]; omega)]
    · rw [if_neg q1, if_pos (by omega), if_neg (by simp only [decide_eq_true_eq]; omega)]
theorem sg_self {σ : Sg} {k j : Nat} {v : Int32} (h : σ k j = v) : sg_st σ k j v = σ := by
  funext q i
  by_cases e : q = k
  · subst e; rw [sgs]
    by_cases e2 : i = j
    · rw [if_pos e2, e2, h]
    · rw [if_neg e2]
  · rw [sgn e]
theorem sg_twice (σ : Sg) (k j : Nat) (v v' : Int32) : sg_st (sg_st σ k j v) k j v' = sg_st σ k j v' := by
  funext q i
  by_cases e : q = k
  · subst e; rw [sgs, sgs, sgs]
    by_cases e2 : i = j
    · rw [if_pos e2, if_pos e2]
    · rw [if_neg e2, if_neg e2, if_neg e2]
  · rw [sgn e, sgn e, sgn e]
theorem HT7.st {T : Nat → Int} {len : Nat} {σ : Sg} (h : HT7 T len σ) {j : Nat} (hj : j ≠ 0) (v : Int32) : HT7 T len (sg_st σ 0 j v) := by
  obtain ⟨h1, h2, h3⟩ := h
  refine ⟨h1, by rw [sgs, if_neg (by omega)]; exact h2, fun i hi => by rw [sgn (by omega)]; exact h3 i hi⟩
/-- blanks are passed over -/
theorem skip7_ok {T : Nat → Int} {len : Nat} {g : Sg} (h : HT7 T len g) {E : Sg → Option Sg} {P : Sg → Prop} {p : Nat} (hp : p ≤ len) (h3 : g 0 3 = J p) (hE : Ok (E (sg_st g 0 3 (J (tS T len p)))) P) : Ok (lc1 (s_X7_readToken_0 E) 1000 g) P := by
  have hl := h.1
  refine Ok_lc1 (fun n x => ∃ r : Nat, x = sg_st g 0 3 (J r) ∧ n = len - r ∧ p ≤ r ∧ r ≤ len ∧ rn isSp T len r = tS T len p) (fun n x κ hi hκ => ?_) 1000 (len - p) g (by omega) ⟨p, (sg_self h3).symm, rfl, Nat.le_refl _, hp, rfl⟩
  obtain ⟨r, hx, hn, h1, h2, h4⟩ := hi
  subst hx
  have hg := h.st (j := 3) (by omega) (J r)
  have g3 : (sg_st g 0 3 (J r)) 0 3 = J r := by rw [sgs, if_pos rfl]
  have bb := bt_bd h r
  have by7 := byte7_eq hg (p := r) (by omega)
  unfold s_X7_readToken_0
  rw [g3, hg.2.1, by7, Option.bind_some, sg_twice]
  simp (disch := omega) only [jle, jeq, L32, L1, J_add]
  by_cases q : len ≤ r
  · rw [if_pos (by omega)]
    rw [rn_st (by omega)] at h4
    rw [h4]; exact hE
  · rw [if_neg (by omega)]
    have bq : bt T len r = T r := by unfold bt; rw [if_pos (by omega)]
    rw [bq]
    by_cases q2 : T r = 32
    · rw [if_pos q2]
      refine hκ (len - (r + 1)) _ (by omega) ⟨r + 1, rfl, rfl, by omega, by omega, ?_⟩
      rw [← rn_go (by omega) (by unfold isSp; simp [q2])]; exact h4
    · rw [if_neg q2]
      rw [rn_st (by unfold isSp; simp [q2])] at h4
      rw [h4]; exact hE
theorem word7_loop {T : Nat → Int} {len : Nat} {g : Sg} (h : HT7 T len g) {E : Sg → Option Sg} {P : Sg → Prop} {p : Nat} (hp : p ≤ len) (h3 : g 0 3 = J p) (hE : Ok (E (sg_st g 0 3 (J (rn isLe T len p)))) P) : Ok (lc1 (s_X7_readWord_0 E) 1000 g) P := by
  have hl := h.1
  refine Ok_lc1 (fun n x => ∃ r : Nat, x = sg_st g 0 3 (J r) ∧ n = len - r ∧ p ≤ r ∧ r ≤ len ∧ rn isLe T len r = rn isLe T len p) (fun n x κ hi hκ => ?_) 1000 (len - p) g (by omega) ⟨p, (sg_self h3).symm, rfl, Nat.le_refl _, hp, rfl⟩
  obtain ⟨r, hx, hn, h1, h2, h4⟩ := hi
  subst hx
  have hg := h.st (j := 3) (by omega) (J r)
  have g3 : (sg_st g 0 3 (J r)) 0 3 = J r := by rw [sgs, if_pos rfl]
  have bb := bt_bd h r
  have by7 := byte7_eq hg (p := r) (by omega)
  unfold s_X7_readWord_0
  rw [g3, hg.2.1, by7, Option.bind_some, let7_eq bb, Option.bind_some, sg_twice]
  simp (disch := omega) only [jle, L1, J_add]
  by_cases q : len ≤ r
  · rw [if_pos (by omega)]
    rw [rn_st (by omega)] at h4
    rw [h4]; exact hE
  · rw [if_neg (by omega)]
    have bq : bt T len r = T r := by unfold bt; rw [if_pos (by omega)]
    rw [bq]
    cases q2 : isLe (T r)
    · rw [if_pos (by decide +kernel)]
      rw [rn_st (by rw [q2]; simp)] at h4
      rw [h4]; exact hE
    · rw [if_neg (by decide +kernel)]
      refine hκ (len - (r + 1)) _ (by omega) ⟨r + 1, rfl, rfl, by omega, by omega, ?_⟩
      rw [← rn_go (by omega) q2]; exact h4
/-- a word held against one of the four -/
theorem wlen {w : Nat} (hw : w < 4) : am_len.getD w 0 = (wB w).length := by
  have : ∀ w : Fin 4, am_len.getD w.1 0 = (wB w.1).length := by decide
  exact this ⟨w, hw⟩
theorem wbyt {w j : Nat} (hw : w < 4) (hj : j < (wB w).length) : (am_byt.getD w []).getD j 0 = J ((wB w).getD j 0) := by
  have : ∀ (w : Fin 4) (j : Fin 7), j.1 < (wB w.1).length → (am_byt.getD w.1 []).getD j.1 0 = J ((wB w.1).getD j.1 0) := by decide +kernel
  have hl : (wB w).length ≤ 7 := by
    have : ∀ w : Fin 4, (wB w.1).length ≤ 7 := by decide
    exact this ⟨w, hw⟩
  exact this ⟨w, hw⟩ ⟨j, by omega⟩ hj
theorem wbd {w j : Nat} : 0 ≤ (wB w).getD j 0 ∧ (wB w).getD j 0 ≤ 255 := by
  unfold wB
  have k0 : ∀ j : Nat, ∀ l : List Int, (∀ x ∈ l, 0 ≤ x ∧ x ≤ 255) → 0 ≤ l.getD j 0 ∧ l.getD j 0 ≤ 255 := by
    intro j l h
    rw [List.getD_eq_getElem?_getD]
    cases hq : l[j]? with
    | none => simp
    | some x => exact h x (List.mem_of_getElem? hq)
  split
  · exact k0 j _ (by decide)
  · split
    · exact k0 j _ (by decide)
    · split
      · exact k0 j _ (by decide)
      · exact k0 j _ (by decide)
theorem isWord7_eq {T : Nat → Int} {len : Nat} {g : Sg} (h : HT7 T len g) {s e w : Nat} (hw : w < 4) (hse : s ≤ e) (he : e ≤ len) (h2 : g 0 2 = J s) (h3 : g 0 3 = J e) : f_X7_isWord g w = some (J (if isW T s e w then 1 else 0)) := by
  have hl := h.1
  have hwl : (wB w).length ≤ 7 := by
    have : ∀ w : Fin 4, (wB w.1).length ≤ 7 := by decide
    exact this ⟨w, hw⟩
  have sl : st_len w = some (J ((wB w).length : Nat)) := by
    unfold st_len; rw [if_pos hw, wlen hw]; rfl
  unfold f_X7_isWord
  rw [sl, Option.bind_some, h2, h3, J_sub]
  simp (disch := omega) only [jeq]
  by_cases q : e - s = (wB w).length
  · rw [if_pos (by omega), ← Ok_eqs, show (0 : Int32) = J ((0 : Nat) : Int) from by decide +kernel]
    have hW : isW T s e w = (List.range (wB w).length).all (fun j => decide (T (s + j) = (wB w).getD j 0)) := by unfold isW; simp [q]
    refine Ok_for1 (wB w).length (fun k => ∀ j, j < k → T (s + j) = (wB w).getD j 0) (fun k κ hk hi hκ => ?_) (fun κ hi => ?_) 1000 0 (by omega) (by omega) (fun j hj => by omega)
    · have by7 := byte7_eq h (p := s + k) (by omega)
      have bq : bt T len (s + k) = T (s + k) := by unfold bt; rw [if_pos (by omega)]
      rw [bq] at by7
      have sa : st_at w (J k) = some (J ((wB w).getD k 0)) := by
        unfold st_at
        rw [if_pos hw, wlen hw, chk_J (by omega), jcl (by omega), Int.toNat_natCast, wbyt hw hk]
      have tb := (h.2.2 (s + k) (by omega)).2
      have wb := wbd (w := w) (j := k)
      unfold s_X7_isWord_20
      rw [sl, Option.bind_some, if_neg (by rw [jle (by omega) (by omega)]; omega), h2, J_add, show ((s : Int) + (k : Int)) = ((s + k : Nat) : Int) from rfl, by7, Option.bind_some, sa, Option.bind_some]
      by_cases q2 : T (s + k) = (wB w).getD k 0
      · rw [if_pos (by rw [q2]), L1, J_add]
        refine hκ (fun j hj => ?_)
        by_cases e' : j = k
        · rw [e']; exact q2
        · exact hi j (by omega)
      · rw [if_neg (fun g => q2 ((jeq (by omega) (by omega)).mp g)), Ok_some, hW]
        have : (List.range (wB w).length).all (fun j => decide (T (s + j) = (wB w).getD j 0)) = false := by
          rw [List.all_eq_false]
          exact ⟨k, by simpa using hk, by simp only [decide_eq_true_eq]; exact q2⟩
        rw [this]; decide +kernel
    · unfold s_X7_isWord_20
      rw [sl, Option.bind_some, if_pos (by rw [jle (by omega) (by omega)]; omega), Ok_some, hW]
      have : (List.range (wB w).length).all (fun j => decide (T (s + j) = (wB w).getD j 0)) = true := by
        rw [List.all_eq_true]
        intro j hj
        simp only [decide_eq_true_eq]
        exact hi j (by simpa using hj)
      rw [this]; decide +kernel
  · rw [if_neg (by omega)]
    have : isW T s e w = false := by unfold isW; simp [q]
    rw [this]; decide +kernel
