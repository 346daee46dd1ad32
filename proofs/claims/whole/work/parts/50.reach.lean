/-! ===== the reference: the fewest folds ===== -/
def encL : List Nat → Int := fun l => l.foldl (fun (x : Int) (k : Nat) => 32 * x + k) 0
def encR (o : Option (List Nat)) : Int := match o with
  | none => -9
  | some r => encL r
theorem a24_get {j : Nat} (h : j < 24) : a24.getD j 0 = j := by
  have : ∀ j : Fin 24, a24.getD j.1 0 = j.1 := by decide
  exact this ⟨j, h⟩
theorem fs24_at {f : Nat → Option (List Nat)} {v : List Nat} {j : Nat} (hj : j < 24) (h : ∀ i, i < j → f i = none) (hf : f j = some v) : a24.findSome? f = some v :=
  fs_at (j := j) hj (fun i hi => by rw [a24_get (by omega)]; exact h i hi) (by rw [a24_get hj]; exact hf)
theorem fs24_none {f : Nat → Option (List Nat)} (h : ∀ i, i < 24 → f i = none) : a24.findSome? f = none :=
  fs_none (fun i hi => by
    have hi : i < 24 := hi
    rw [a24_get hi]; exact h i hi)
theorem FR.refl (L : Nat) (μ : Sg) : FR L μ μ := ⟨fun _ _ _ _ _ => rfl, fun _ _ => rfl, fun _ _ => rfl⟩
theorem FR.trans {L : Nat} {μ z y : Sg} (h : FR L μ z) (h' : FR L z y) : FR L μ y := ⟨fun q a b c d => by rw [h'.1 q a b c d, h.1 q a b c d], fun i hi => by rw [h'.2.1 i hi, h.2.1 i hi], fun i hi => by rw [h'.2.2 i hi, h.2.2 i hi]⟩
theorem FR.down {L L' : Nat} {μ z : Sg} (h : FR L μ z) (hl : L' ≤ L) : FR L' μ z := ⟨h.1, fun i hi => h.2.1 i (by omega), fun i hi => h.2.2 i (by omega)⟩
theorem FR.td {W H L : Nat} {μ z : Sg} (h : FR L μ z) (ht : TD W H μ) : TD W H z := ht.cong (h.1 2 (by omega) (by omega) (by omega) (by omega))
theorem FR.h9 {n : Nat} {S : St} {L L' : Nat} {μ z : Sg} (h : FR L μ z) (hl : L' ≤ L) (hn : n ≤ 16) (h9 : H9 n S L' μ) : H9 n S L' z := h9.cong hn (fun i hi => h.2.1 i (by omega)) (fun i hi => h.2.2 i (by omega))
/-- what a number of the next fold leads to -/
def fnx (n : Nat) (T : Pk → Bool) (m : Nat) (S : St) (k : Nat) : Option (List Nat) := if vl S k then (rS n T a24 m (stp n S k)).map (k :: ·) else none
theorem rS_fnx (n : Nat) (T : Pk → Bool) (m : Nat) (S : St) : rS n T a24 (m + 1) S = a24.findSome? (fnx n T m S) := rfl
theorem rS0 {n : Nat} {T : Pk → Bool} {ks : List Nat} {S : St} : rS n T ks 0 S = if T S.2 then some [] else none := rfl
section
variable {W H : Nat} {tr : Int64} {a b : Nat}
theorem reach3_ok {S : St} {g : Sg} (hn : W * H ≤ 16) (w : WF (W * H) S) (ht : TD W H g) (h : H9 (W * H) S 2 g) (ha : a < W * H) (hb : b < W * H) {x7 : Nat} {k9 : Int32 → Sg → Option (Int32 × Sg)} {e10 : Int32 → Int32 → Sg → Option (Int32 × Sg)} {z13 : Int32 × Sg} (hz : z13.1 = J 1) {P : Int32 × Sg → Prop}
    (hk : rS (W * H) (T1 a b) a24 1 S = none → ∀ g', FR 2 g g' → Ok (k9 (J ((x7 : Int) + 1)) g') P) (he : ∀ k g', k < 24 → FR 2 g g' → rS (W * H) (T1 a b) a24 1 S = some [k] → Ok (e10 (J x7) (J k) g') P) :
    Ok (lc2 (s_X9_reachesOn_76q tr (J a) (J b) (J 3) (J x7) k9 e10 z13) 1000 (J 0) g) P := by
  have n1 : ¬ z13.1 = (0 : Int32) := by rw [hz, L0, jeq (by omega) (by omega)]; omega
  rw [show J 0 = J ((0 : Nat) : Int) from rfl]
  refine Ok_for2 24 (fun j g' => FR 2 g g' ∧ ∀ i, i < j → fnx (W * H) (T1 a b) 0 S i = none) (fun j g' κ hj hi hκ => ?_) (fun g' κ hi => ?_) 1000 0 _ (by omega) (by omega) ⟨FR.refl 2 g, fun i hi => by omega⟩
  · obtain ⟨i1, i2⟩ := hi
    unfold s_X9_reachesOn_76q
    rw [if_neg (by rw [L24, jle (by omega) (by omega)]; omega), if_neg n1, if_pos (by decide +kernel), Ok_bind, show (2 : Int32) = J ((2 : Nat) : Int) from by decide +kernel]
    refine (folds_ok hn w (i1.td ht) (by omega) (i1.h9 (Nat.le_refl 2) hn h) hj).mono (fun z hz => ?_)
    obtain ⟨r, hz⟩ := hz
    have nx : fnx (W * H) (T1 a b) 0 S j = none → ∀ i, i < j + 1 → fnx (W * H) (T1 a b) 0 S i = none := by
      intro hx i hlt
      by_cases e : i = j
      · rw [e]; exact hx
      · exact i2 i (by omega)
    rcases hz with ⟨v, z1, z2⟩ | ⟨v, z1, z2⟩
    · rw [if_neg (by rw [z1, L0, jeq (by omega) (by omega)]; omega), show (3 : Int32) = J ((3 : Nat) : Int) from by decide +kernel, touches_eq (w.fd v) (by omega) z2 ha hb, Option.bind_some]
      have htr := tcP_range (stp (W * H) S j).2 a b
      by_cases q : tcP (stp (W * H) S j).2 a b = 1
      · rw [if_pos (by rw [q]; decide +kernel)]
        refine he j _ hj (i1.trans r) ?_
        rw [rS_fnx]
        refine fs24_at hj i2 ?_
        unfold fnx
        rw [if_pos v, rS0, if_pos (by unfold T1; simp [q])]
        rfl
      · rw [if_neg (by rw [L1, jeq (by omega) (by omega)]; exact q), L1, J_add]
        refine hκ _ ⟨i1.trans r, nx ?_⟩
        unfold fnx
        rw [if_pos v, rS0, if_neg (by unfold T1; simp [q])]
        rfl
    · rw [if_pos (by rw [z1, L0]), L1, J_add]
      refine hκ _ ⟨i1.trans r, nx ?_⟩
      unfold fnx
      rw [if_neg v]
  · unfold s_X9_reachesOn_76q
    rw [if_pos (by decide +kernel), L1, J_add]
    exact hk (by rw [rS_fnx]; exact fs24_none hi.2) _ hi.1
theorem reach2_ok {S : St} {g : Sg} (hn : W * H ≤ 16) (w : WF (W * H) S) (ht : TD W H g) (h : H9 (W * H) S 1 g) (ha : a < W * H) (hb : b < W * H) {m : Nat} (hm : m = 2 ∨ m = 3) {e10 : Int32 → Int32 → Sg → Option (Int32 × Sg)} {e11 : Int32 → Sg → Option (Int32 × Sg)} {P : Int32 × Sg → Prop}
    (h0 : rS (W * H) (T1 a b) a24 (m - 1) S = none → ∀ g', FR 1 g g' → P (J (-9), g')) (h2 : m = 2 → ∀ k g', k < 24 → FR 1 g g' → rS (W * H) (T1 a b) a24 1 S = some [k] → Ok (e11 (J k) g') P) (h3 : m = 3 → ∀ k k' g', k < 24 → k' < 24 → FR 1 g g' → rS (W * H) (T1 a b) a24 2 S = some [k, k'] → Ok (e10 (J k) (J k') g') P) :
    Ok (lc2 (s_X9_reachesOn_27 tr (J a) (J b) (J m) e10 e11) 1000 (J 0) g) P := by
  rw [show J 0 = J ((0 : Nat) : Int) from rfl]
  refine Ok_for2 24 (fun j g' => FR 1 g g' ∧ ∀ i, i < j → fnx (W * H) (T1 a b) (m - 2) S i = none) (fun j g' κ hj hi hκ => ?_) (fun g' κ hi => ?_) 1000 0 _ (by omega) (by omega) ⟨FR.refl 1 g, fun i hi => by omega⟩
  · obtain ⟨i1, i2⟩ := hi
    have nx : fnx (W * H) (T1 a b) (m - 2) S j = none → ∀ i, i < j + 1 → fnx (W * H) (T1 a b) (m - 2) S i = none := by
      intro hx i hlt
      by_cases e : i = j
      · rw [e]; exact hx
      · exact i2 i (by omega)
    unfold s_X9_reachesOn_27
    rw [if_neg (by rw [L24, jle (by omega) (by omega)]; omega), Ok_bind, show (1 : Int32) = J ((1 : Nat) : Int) from by decide +kernel]
    refine (folds_ok hn w (i1.td ht) (by omega) (i1.h9 (Nat.le_refl 1) hn h) hj).mono (fun z hz => ?_)
    obtain ⟨r, hz⟩ := hz
    rcases hz with ⟨v, z1, z2⟩ | ⟨v, z1, z2⟩
    · rw [if_neg (by rw [z1, L0, jeq (by omega) (by omega)]; omega)]
      rcases hm with hm | hm
      · subst hm
        rw [if_pos (by decide +kernel), show (2 : Int32) = J ((2 : Nat) : Int) from by decide +kernel, touches_eq (w.fd v) (by omega) z2 ha hb, Option.bind_some]
        have htr := tcP_range (stp (W * H) S j).2 a b
        by_cases q : tcP (stp (W * H) S j).2 a b = 1
        · rw [if_pos (by rw [q]; rfl)]
          refine h2 rfl j _ hj (i1.trans r) ?_
          rw [rS_fnx]
          refine fs24_at hj i2 ?_
          unfold fnx
          rw [if_pos v, rS0, if_pos (by unfold T1; simp [q])]
          rfl
        · rw [if_neg (by rw [jeq (by omega) (by omega)]; omega)]
          have ex1 : Ok (lc2 (s_X9_reachesOn_76qq tr (J a) (J b) (J ((2 : Nat) : Int)) (J j) κ e10 z) 1000 0 z.2) P := by
            show Ok (s_X9_reachesOn_76qq _ _ _ _ _ _ _ _ 0 z.2 _) P
            unfold s_X9_reachesOn_76qq
            rw [if_neg (by decide +kernel), if_neg (by rw [z1, L0, jeq (by omega) (by omega)]; omega), if_neg (by decide +kernel), L1, J_add]
            refine hκ _ ⟨i1.trans r, nx ?_⟩
            unfold fnx
            rw [if_pos v, rS0, if_neg (by unfold T1; simp [q])]
            rfl
          exact ex1
      · subst hm
        rw [if_neg (by decide +kernel), L0]
        refine reach3_ok hn (w.fd v) ((i1.trans r).td ht) z2 ha hb z1 (fun hno g'' hg => ?_) (fun k3 g'' hk3 hg hso => ?_)
        · refine hκ _ ⟨(i1.trans r).trans (hg.down (by omega)), nx ?_⟩
          show fnx (W * H) (T1 a b) 1 S j = none
          unfold fnx
          rw [if_pos v, hno]; rfl
        · refine h3 rfl j k3 _ hj hk3 ((i1.trans r).trans (hg.down (by omega))) ?_
          rw [rS_fnx]
          refine fs24_at hj i2 ?_
          unfold fnx
          rw [if_pos v, hso]; rfl
    · rw [if_pos (by rw [z1, L0])]
      have ex1 : Ok (lc2 (s_X9_reachesOn_76 tr (J a) (J b) (J m) (J j) κ e10 z) 1000 0 z.2) P := by
        show Ok (s_X9_reachesOn_76 _ _ _ _ _ _ _ _ 0 z.2 _) P
        unfold s_X9_reachesOn_76
        rw [if_neg (by decide +kernel), if_pos (by rw [z1, L0]), L1, J_add]
        refine hκ _ ⟨i1.trans r, nx ?_⟩
        unfold fnx
        rw [if_neg v]
      exact ex1
  · unfold s_X9_reachesOn_27
    rw [if_pos (by decide +kernel), Ok_some, L9, J_neg]
    refine h0 ?_ _ hi.1
    rw [show m - 1 = (m - 2) + 1 by omega, rS_fnx]
    exact fs24_none hi.2
theorem reachesOn_ok {S : St} {g : Sg} (hn : W * H ≤ 16) (w : WF (W * H) S) (ht : TD W H g) (h : H9 (W * H) S 1 g) (ha : a < W * H) (hb : b < W * H) {m : Nat} (hm : 1 ≤ m ∧ m ≤ 3) {k : Nat} (hk : k < 24) :
    Ok (f_X9_reachesOn g tr (J a) (J b) (J m) (J k)) (fun z => FR 1 g z.2 ∧ z.1 = J (encR ((rS (W * H) (T1 a b) a24 (m - 1) S).map (k :: ·)))) := by
  unfold f_X9_reachesOn
  rcases (show m = 1 ∨ (m = 2 ∨ m = 3) by omega) with e | e
  · subst e
    have htr := tcP_range S.2 a b
    rw [if_pos (by decide +kernel), show (1 : Int32) = J ((1 : Nat) : Int) from by decide +kernel, touches_eq w (by omega) h ha hb, Option.bind_some, rS0]
    by_cases q : tcP S.2 a b = 1
    · rw [if_pos (by rw [q]; rfl), if_pos (by unfold T1; simp [q]), Ok_some]
      refine ⟨FR.refl 1 g, ?_⟩
      refine congrArg J ?_
      show (k : Int) = 32 * 0 + (k : Int)
      omega
    · rw [if_neg (by rw [jeq (by omega) (by omega)]; omega), if_neg (by unfold T1; simp [q]), Ok_some]
      exact ⟨FR.refl 1 g, by rw [L9, J_neg]; rfl⟩
  · rw [if_neg (by rw [L1, jeq (by omega) (by omega)]; omega), L0]
    refine reach2_ok hn w ht h ha hb e (fun hno g' hg => ⟨hg, by rw [hno]; rfl⟩) (fun e2 k2 g' hk2 hg hso => ?_) (fun e3 k2 k3 g' hk2 hk3 hg hso => ?_)
    · subst e2
      unfold j_X9_reachesOn_2
      rw [Ok_some, L32, J_mul, J_add]
      refine ⟨hg, ?_⟩
      rw [hso]
      refine congrArg J ?_
      show 32 * (k : Int) + k2 = 32 * (32 * 0 + (k : Int)) + k2
      omega
    · subst e3
      unfold j_X9_reachesOn_1
      rw [Ok_some, L32, J_mul, J_add, J_mul, J_add]
      refine ⟨hg, ?_⟩
      rw [hso]
      refine congrArg J ?_
      show 32 * (32 * (k : Int) + k2) + k3 = 32 * (32 * (32 * 0 + (k : Int)) + k2) + k3
      omega
theorem encL_nn : ∀ (l : List Nat), 0 ≤ encL l := by
  have key : ∀ (l : List Nat) (x : Int), 0 ≤ x → 0 ≤ l.foldl (fun (x : Int) (k : Nat) => 32 * x + k) x := by
    intro l
    induction l with
    | nil => intro x hx; exact hx
    | cons y l ih => intro x hx; exact ih _ (by show 0 ≤ 32 * x + (y : Int); omega)
  exact fun l => key l 0 (Int.le_refl 0)
theorem encL_le {l : List Nat} (hl : l.length ≤ 3) (hk : ∀ k ∈ l, k < 24) : encL l ≤ 100000 := by
  match l, hl, hk with
  | [], _, _ => decide
  | [x], _, hk =>
    have h1 := hk x (by simp)
    show 32 * 0 + (x : Int) ≤ 100000
    omega
  | [x, y], _, hk =>
    have h1 := hk x (by simp)
    have h2 := hk y (by simp)
    show 32 * (32 * 0 + (x : Int)) + y ≤ 100000
    omega
  | [x, y, z], _, hk =>
    have h1 := hk x (by simp)
    have h2 := hk y (by simp)
    have h3 := hk z (by simp)
    show 32 * (32 * (32 * 0 + (x : Int)) + y) + z ≤ 100000
    omega
theorem encR_bd {n : Nat} {T : Pk → Bool} {m : Nat} {S : St} (hm : m ≤ 3) : -9 ≤ encR (rS n T a24 m S) ∧ encR (rS n T a24 m S) ≤ 100000 ∧ (encR (rS n T a24 m S) = -9 ↔ rS n T a24 m S = none) := by
  cases h : rS n T a24 m S with
  | none => exact ⟨by decide, by decide, by simp [encR]⟩
  | some r =>
    obtain ⟨h1, h2⟩ := rS_len m S r h
    have g1 := encL_nn r
    have g2 := encL_le (l := r) (by omega) (fun k hk => mem_a24.mp (h2 k hk))
    show -9 ≤ encL r ∧ encL r ≤ 100000 ∧ (encL r = -9 ↔ _)
    refine ⟨by omega, g2, ?_⟩
    constructor
    · intro q; omega
    · intro q; cases q
theorem reaches_ok {S : St} {g : Sg} (hn : W * H ≤ 16) (w : WF (W * H) S) (ht : TD W H g) (h : H9 (W * H) S 0 g) (ha : a < W * H) (hb : b < W * H) {m : Nat} (hm : m ≤ 3) :
    Ok (f_X9_reaches g tr (J a) (J b) (J m)) (fun z => FR 0 g z.2 ∧ z.1 = J (encR (rS (W * H) (T1 a b) a24 m S))) := by
  unfold f_X9_reaches
  rcases (show m = 0 ∨ 1 ≤ m by omega) with e | e
  · subst e
    have htr := tcP_range S.2 a b
    rw [if_pos (by decide +kernel), show (0 : Int32) = J ((0 : Nat) : Int) from by decide +kernel, touches_eq w (by omega) h ha hb, Option.bind_some, rS0]
    by_cases q : tcP S.2 a b = 1
    · rw [if_pos (by rw [q]; decide +kernel), if_pos (by unfold T1; simp [q]), Ok_some]
      exact ⟨FR.refl 0 g, rfl⟩
    · rw [if_neg (by rw [L1, jeq (by omega) (by omega)]; omega), if_neg (by unfold T1; simp [q]), Ok_some]
      exact ⟨FR.refl 0 g, by rw [L9, J_neg]; rfl⟩
  · rw [if_neg (by rw [L0, jeq (by omega) (by omega)]; omega), show (0 : Int32) = J ((0 : Nat) : Int) from by decide +kernel]
    refine Ok_for2 24 (fun j g' => FR 0 g g' ∧ ∀ i, i < j → fnx (W * H) (T1 a b) (m - 1) S i = none) (fun j g' κ hj hi hκ => ?_) (fun g' κ hi => ?_) 1000 0 _ (by omega) (by omega) ⟨FR.refl 0 g, fun i hi => by omega⟩
    · obtain ⟨i1, i2⟩ := hi
      have nx : fnx (W * H) (T1 a b) (m - 1) S j = none → ∀ i, i < j + 1 → fnx (W * H) (T1 a b) (m - 1) S i = none := by
        intro hx i hlt
        by_cases e : i = j
        · rw [e]; exact hx
        · exact i2 i (by omega)
      unfold s_X9_reaches_25
      rw [if_neg (by rw [L24, jle (by omega) (by omega)]; omega), Ok_bind, show (0 : Int32) = J ((0 : Nat) : Int) from by decide +kernel]
      refine (folds_ok hn w (i1.td ht) (by omega) (i1.h9 (Nat.le_refl 0) hn h) hj).mono (fun z hz => ?_)
      obtain ⟨r, hz⟩ := hz
      rcases hz with ⟨v, z1, z2⟩ | ⟨v, z1, z2⟩
      · rw [if_neg (by rw [z1, jeq (by omega) (by omega)]; omega), Ok_bind]
        refine (reachesOn_ok hn (w.fd v) ((i1.trans r).td ht) z2 ha hb ⟨e, hm⟩ hj).mono (fun y hy => ?_)
        obtain ⟨y1, y2⟩ := hy
        unfold j_X9_reaches_1
        have hf : fnx (W * H) (T1 a b) (m - 1) S j = (rS (W * H) (T1 a b) a24 (m - 1) (stp (W * H) S j)).map (j :: ·) := by unfold fnx; rw [if_pos v]
        have hrow : rS (W * H) (T1 a b) a24 m S = a24.findSome? (fnx (W * H) (T1 a b) (m - 1) S) := by
          rw [show m = (m - 1) + 1 by omega, rS_fnx]; rfl
        rw [← hf] at y2
        cases hx : fnx (W * H) (T1 a b) (m - 1) S j with
        | none =>
          rw [hx] at y2
          rw [if_pos (by rw [y2]; decide +kernel), L1, J_add]
          exact hκ _ ⟨(i1.trans r).trans (y1.down (by omega)), nx hx⟩
        | some row =>
          rw [hx] at y2
          have hso : rS (W * H) (T1 a b) a24 m S = some row := by rw [hrow]; exact fs24_at hj i2 hx
          have bd := encR_bd (n := W * H) (T := T1 a b) (S := S) hm
          rw [hso] at bd
          rw [if_neg (by rw [y2, L9, J_neg, jeq (by omega) (by omega)]; intro q; have := bd.2.2.mp q; cases this), Ok_some]
          exact ⟨(i1.trans r).trans (y1.down (by omega)), by rw [y2, hso]⟩
      · rw [if_pos (by rw [z1]; rfl)]
        unfold j_X9_reaches_1
        rw [if_pos rfl, L1, J_add]
        refine hκ _ ⟨i1.trans r, nx ?_⟩
        unfold fnx
        rw [if_neg v]
    · unfold s_X9_reaches_25
      rw [if_pos (by decide +kernel), Ok_some, L9, J_neg]
      refine ⟨hi.1, ?_⟩
      rw [show m = (m - 1) + 1 by omega, rS_fnx, fs24_none hi.2]
      rfl
end
theorem lc2_u {R T1 T2 : Type} {step : T1 → T2 → (T1 → T2 → Option R) → Option R} {f : Nat} {x : T1} {y : T2} : lc2 step (f + 1) x y = step x y (lc2 step f) := rfl
theorem member_eq {row : List Nat} (hl : row.length ≤ 3) (hk : ∀ k ∈ row, k < 24) {i : Int} (hi : 0 ≤ i ∧ i ≤ 2147483647) : f_X9_member (J (encL row)) (J (row.length : Nat)) (J i) = some (J (if i < row.length then ((row.getD i.toNat 0 : Nat) : Int) else -5)) := by
  unfold f_X9_member
  have stepq : ∀ (v kk : Int) (κ : Int32 → Int32 → Option Int32), 0 ≤ v → v ≤ 100000 → -1 ≤ kk → kk ≤ 3 → s_X9_member_7 (J i) (j_X9_member_1 (J (row.length : Nat)) (J i)) (J v) (J kk) κ = if kk ≤ i then j_X9_member_1 (J (row.length : Nat)) (J i) (J v) else κ (J (v / 32)) (J (kk - 1)) := by
    intro v kk κ h1 h2 h3 h4
    unfold s_X9_member_7
    simp (disch := omega) only [jle, L32, L1, J_neg, J_add, J_divI]
    rfl
  have last : ∀ v : Int, 0 ≤ v → v ≤ 100000 → j_X9_member_1 (J (row.length : Nat)) (J i) (J v) = some (J (if (row.length : Int) ≤ i then -5 else v % 32)) := by
    intro v h1 h2
    unfold j_X9_member_1
    simp (disch := omega) only [jle, L32, L5, J_neg, J_divI, J_mul, J_sub]
    by_cases q : (row.length : Int) ≤ i
    · rw [if_pos q, if_pos q]
    · rw [if_neg q, if_neg q]
      exact congrArg (fun x => some (J x)) (by omega)
  have e5 : (-5 : Int32) = J (-5) := by decide +kernel
  match row, hl, hk with
  | [], _, _ =>
    rw [L1, J_sub, show (1000 : Nat) = 999 + 1 from rfl, lc2_u, show encL [] = 0 from rfl, stepq 0 _ _ (by omega) (by omega) (by simp) (by simp), if_pos (by simp; omega), last 0 (by omega) (by omega)]
    rw [if_pos (by simp; omega), if_neg (by simp; omega)]
  | [x], _, hk =>
    have h1 := hk x (by simp)
    rw [L1, J_sub, show (1000 : Nat) = 999 + 1 from rfl, lc2_u, show encL [x] = 32 * 0 + (x : Int) from rfl, stepq _ _ _ (by omega) (by omega) (by simp) (by simp), if_pos (by simp; omega), last _ (by omega) (by omega)]
    refine congrArg (fun x => some (J x)) ?_
    show (if (1 : Int) ≤ i then (-5 : Int) else _) = if i < 1 then _ else _
    by_cases q : i = 0
    · subst q; simp; omega
    · rw [if_pos (by omega), if_neg (by omega)]
  | [x, y], _, hk =>
    have h1 := hk x (by simp)
    have h2 := hk y (by simp)
    rw [L1, J_sub, show (1000 : Nat) = 998 + 1 + 1 from rfl, lc2_u, show encL [x, y] = 32 * (32 * 0 + (x : Int)) + y from rfl, stepq _ _ _ (by omega) (by omega) (by simp) (by simp)]
    show (if ((2 : Nat) : Int) - 1 ≤ i then _ else _) = _
    by_cases q : i = 0
    · subst q
      rw [if_neg (by omega), lc2_u, stepq _ _ _ (by omega) (by omega) (by simp) (by simp), if_pos (by simp), last _ (by omega) (by omega)]
      refine congrArg (fun x => some (J x)) ?_
      simp; omega
    · rw [if_pos (by omega), last _ (by omega) (by omega)]
      refine congrArg (fun x => some (J x)) ?_
      show (if (2 : Int) ≤ i then (-5 : Int) else _) = if i < 2 then _ else _
      by_cases q1 : i = 1
      · subst q1; simp; omega
      · rw [if_pos (by omega), if_neg (by omega)]
  | [x, y, z], _, hk =>
    have h1 := hk x (by simp)
    have h2 := hk y (by simp)
    have h3 := hk z (by simp)
    rw [L1, J_sub, show (1000 : Nat) = 997 + 1 + 1 + 1 from rfl, lc2_u, show encL [x, y, z] = 32 * (32 * (32 * 0 + (x : Int)) + y) + z from rfl, stepq _ _ _ (by omega) (by omega) (by simp) (by simp)]
    show (if ((3 : Nat) : Int) - 1 ≤ i then _ else _) = _
    by_cases q : i = 0
    · subst q
      rw [if_neg (by omega), lc2_u, stepq _ _ _ (by omega) (by omega) (by simp) (by simp), if_neg (by simp), lc2_u, stepq _ _ _ (by omega) (by omega) (by simp) (by simp), if_pos (by simp), last _ (by omega) (by omega)]
      refine congrArg (fun x => some (J x)) ?_
      simp; omega
    · by_cases q1 : i = 1
      · subst q1
        rw [if_neg (by omega), lc2_u, stepq _ _ _ (by omega) (by omega) (by simp) (by simp), if_pos (by simp), last _ (by omega) (by omega)]
        refine congrArg (fun x => some (J x)) ?_
        simp; omega
      · rw [if_pos (by omega), last _ (by omega) (by omega)]
        refine congrArg (fun x => some (J x)) ?_
        show (if (3 : Int) ≤ i then (-5 : Int) else _) = if i < 3 then _ else _
        by_cases q2 : i = 2
        · subst q2; simp; omega
        · rw [if_pos (by omega), if_neg (by omega)]
