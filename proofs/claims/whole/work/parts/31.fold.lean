/-! ===== the packet, in numbers ===== -/
/-- q = 0: x, 1: y, 2: layer, 3: front up; cell -/
abbrev Pk : Type := Nat → Nat → Int
/-- how many of the first n -/
def cnt (p : Nat → Bool) : Nat → Int
  | 0 => 0
  | n + 1 => cnt p n + (if p n then 1 else 0)
theorem cnt_succ (p : Nat → Bool) (n : Nat) : cnt p (n + 1) = cnt p n + (if p n then 1 else 0) := rfl
theorem cnt_cong {p q : Nat → Bool} : ∀ {n : Nat}, (∀ k, k < n → p k = q k) → cnt p n = cnt q n
  | 0, _ => rfl
  | n + 1, h => by rw [cnt_succ, cnt_succ, cnt_cong (fun k hk => h k (by omega)), h n (by omega)]
theorem cnt_nonneg (p : Nat → Bool) : ∀ n, 0 ≤ cnt p n
  | 0 => Int.le_refl 0
  | n + 1 => by
    have h := cnt_nonneg p n
    rw [cnt_succ]
    split <;> omega
theorem cnt_le (p : Nat → Bool) : ∀ n : Nat, cnt p n ≤ n
  | 0 => Int.le_refl 0
  | n + 1 => by
    have h := cnt_le p n
    rw [cnt_succ]
    split <;> omega
theorem cnt_or {p q : Nat → Bool} : ∀ {n : Nat}, (∀ k, k < n → ¬ (p k = true ∧ q k = true)) → cnt (fun k => p k || q k) n = cnt p n + cnt q n
  | 0, _ => rfl
  | n + 1, h => by
    rw [cnt_succ, cnt_succ, cnt_succ, cnt_or (fun k hk => h k (by omega))]
    have h1 := h n (by omega)
    cases hp : p n <;> cases hq : q n <;> simp_all <;> omega
theorem cnt_pos {p : Nat → Bool} : ∀ {n c : Nat}, c < n → p c = true → 1 ≤ cnt p n
  | 0, c, h, _ => by omega
  | n + 1, c, h, hp => by
    rw [cnt_succ]
    rcases Nat.lt_or_ge c n with g | g
    · have := cnt_pos g hp
      split <;> omega
    · have e : c = n := by omega
      subst e
      have := cnt_nonneg p c
      rw [hp]
      simp
      omega
theorem cnt_ex {p : Nat → Bool} : ∀ {n : Nat}, 1 ≤ cnt p n → ∃ c, c < n ∧ p c = true
  | 0, h => by simp [cnt] at h
  | n + 1, h => by
    rw [cnt_succ] at h
    by_cases hp : p n = true
    · exact ⟨n, by omega, hp⟩
    · rw [if_neg hp] at h
      obtain ⟨c, hc, hpc⟩ := cnt_ex (n := n) (p := p) (by omega)
      exact ⟨c, by omega, hpc⟩
/-- how many lie at a place, told along and across -/
def hh (n : Nat) (A B : Nat → Int) (u v : Int) : Int := cnt (fun c => decide (A c = u) && decide (B c = v)) n
theorem hh_nonneg (n : Nat) (A B : Nat → Int) (u v : Int) : 0 ≤ hh n A B u v := cnt_nonneg _ _
theorem hh_le (n : Nat) (A B : Nat → Int) (u v : Int) : hh n A B u v ≤ n := cnt_le _ _
theorem hh_swap (n : Nat) (A B : Nat → Int) (u v : Int) : hh n B A v u = hh n A B u v := cnt_cong (fun k _ => Bool.and_comm _ _)
theorem hh_pos {n c : Nat} {A B : Nat → Int} {u v : Int} (hc : c < n) (hu : A c = u) (hv : B c = v) : 1 ≤ hh n A B u v := cnt_pos hc (by simp [hu, hv])
theorem hh_ex {n : Nat} {A B : Nat → Int} {u v : Int} (h : 1 ≤ hh n A B u v) : ∃ c, c < n ∧ A c = u ∧ B c = v := by
  obtain ⟨c, hc, hp⟩ := cnt_ex h
  simp only [Bool.and_eq_true, decide_eq_true_eq] at hp
  exact ⟨c, hc, hp.1, hp.2⟩
theorem hh_zero {n : Nat} {A B : Nat → Int} {u v : Int} (h : ∀ c, c < n → A c = u → B c = v → False) : hh n A B u v = 0 := by
  rcases Int.lt_or_le (hh n A B u v) 1 with g | g
  · have := hh_nonneg n A B u v
    omega
  · obtain ⟨c, hc, h1, h2⟩ := hh_ex g
    exact (h c hc h1 h2).elim
/-- in range, every column and row inhabited, the layers of a place apart and all there -/
def WA (n : Nat) (ea eb : Int) (A B L F : Nat → Int) : Prop :=
  n ≤ 16 ∧ (1 ≤ ea ∧ ea ≤ 4) ∧ (1 ≤ eb ∧ eb ≤ 4) ∧ (∀ c, c < n → 0 ≤ A c ∧ A c < ea) ∧ (∀ c, c < n → 0 ≤ B c ∧ B c < eb) ∧
  (∀ u : Int, 0 ≤ u → u < ea → ∃ c, c < n ∧ A c = u) ∧ (∀ u : Int, 0 ≤ u → u < eb → ∃ c, c < n ∧ B c = u) ∧
  (∀ c, c < n → 0 ≤ L c ∧ L c < hh n A B (A c) (B c)) ∧ (∀ c d, c < n → d < n → A c = A d → B c = B d → L c = L d → c = d) ∧ (∀ c, c < n → F c = 0 ∨ F c = 1) ∧
  (∀ u v l : Int, 0 ≤ l → l < hh n A B u v → ∃ c, c < n ∧ A c = u ∧ B c = v ∧ L c = l)
theorem WA.swap {n : Nat} {ea eb : Int} {A B L F : Nat → Int} (h : WA n ea eb A B L F) : WA n eb ea B A L F := by
  obtain ⟨h1, h2, h3, h4, h5, h6, h7, h8, h9, h10, h11⟩ := h
  refine ⟨h1, h3, h2, h5, h4, h7, h6, fun c hc => ?_, fun c d hc hd ha hb hl => h9 c d hc hd hb ha hl, h10, fun u v l hl hlt => ?_⟩
  · rw [hh_swap]; exact h8 c hc
  · rw [hh_swap] at hlt
    obtain ⟨c, hc, ha, hb, hl2⟩ := h11 v u l hl hlt
    exact ⟨c, hc, hb, ha, hl2⟩
/-- the fold, along -/
def fgo (A : Nat → Int) (ln : Int) (pt : Bool) (c : Nat) : Bool := if pt then decide (ln ≤ A c) else decide (A c < ln)
def fsh (ea ln : Int) (pt : Bool) : Int := if pt then (if 0 < ea - 2 * ln then ea - 2 * ln else 0) else - ln
def fA (ea : Int) (A : Nat → Int) (ln : Int) (pt : Bool) : Nat → Int := fun c => (if fgo A ln pt c then 2 * ln - 1 - A c else A c) + fsh ea ln pt
def fL (n : Nat) (A B L : Nat → Int) (ln : Int) (pt ov : Bool) : Nat → Int := fun c =>
  if fgo A ln pt c then (if ov then hh n A B (2 * ln - 1 - A c) (B c) else 0) + (hh n A B (A c) (B c) - 1 - L c)
  else L c + (if ov then 0 else hh n A B (2 * ln - 1 - A c) (B c))
def fF (A F : Nat → Int) (ln : Int) (pt : Bool) : Nat → Int := fun c => if fgo A ln pt c then 1 - F c else F c
def fe (ea ln : Int) : Int := if ea - ln < ln then ln else ea - ln
theorem fgo_t {A : Nat → Int} {ln : Int} {c : Nat} : fgo A ln true c = true ↔ ln ≤ A c := by simp [fgo]
theorem fgo_f {A : Nat → Int} {ln : Int} {c : Nat} : fgo A ln false c = true ↔ A c < ln := by simp [fgo]
theorem fgo_xor (A : Nat → Int) (ln : Int) (pt : Bool) (c : Nat) : fgo A ln pt c = xor pt (decide (A c < ln)) := by
  unfold fgo
  cases pt
  · simp
  · by_cases q : A c < ln <;> simp [q] <;> omega
/-- the column where a cell comes to, ahead of the shift -/
def ft (A : Nat → Int) (ln : Int) (pt : Bool) (c : Nat) : Int := if fgo A ln pt c then 2 * ln - 1 - A c else A c
theorem fA_ft (ea : Int) (A : Nat → Int) (ln : Int) (pt : Bool) (c : Nat) : fA ea A ln pt c = ft A ln pt c + fsh ea ln pt := rfl
/-- stays' side -/
def sd (ln : Int) (pt : Bool) (t : Int) : Prop := (pt = true → t < ln) ∧ (pt = false → ln ≤ t)
theorem ft_sd (A : Nat → Int) (ln : Int) (pt : Bool) (c : Nat) : sd ln pt (ft A ln pt c) := by
  unfold ft sd
  cases pt
  · simp only [fgo_f]
    refine ⟨fun h => (by cases h), fun _ => ?_⟩
    split <;> omega
  · simp only [fgo_t]
    refine ⟨fun _ => ?_, fun h => (by cases h)⟩
    split <;> omega
theorem ft_iff {A : Nat → Int} {ln : Int} {pt : Bool} {c : Nat} {t : Int} (ht : sd ln pt t) : ft A ln pt c = t ↔ (A c = t ∨ A c = 2 * ln - 1 - t) := by
  unfold ft
  cases pt
  · have := ht.2 rfl
    simp only [fgo_f]
    split <;> omega
  · have := ht.1 rfl
    simp only [fgo_t]
    split <;> omega
theorem hh_fA {n : Nat} {ea : Int} {A B : Nat → Int} {ln : Int} {pt : Bool} {t v : Int} (ht : sd ln pt t) : hh n (fA ea A ln pt) B (t + fsh ea ln pt) v = hh n A B t v + hh n A B (2 * ln - 1 - t) v := by
  unfold hh
  rw [← cnt_or]
  · refine cnt_cong (fun k _ => ?_)
    have h1 : fA ea A ln pt k = t + fsh ea ln pt ↔ (A k = t ∨ A k = 2 * ln - 1 - t) := by
      rw [fA_ft, ← ft_iff ht]
      omega
    by_cases hb : B k = v <;> simp [h1, hb]
  · intro k _ h
    simp only [Bool.and_eq_true, decide_eq_true_eq] at h
    omega
theorem hh_fA_at {n : Nat} {ea : Int} {A B : Nat → Int} {ln : Int} {pt : Bool} (c : Nat) : hh n (fA ea A ln pt) B (fA ea A ln pt c) (B c) = hh n A B (A c) (B c) + hh n A B (2 * ln - 1 - A c) (B c) := by
  rw [fA_ft, hh_fA (ft_sd A ln pt c)]
  unfold ft
  split
  · rw [show 2 * ln - 1 - (2 * ln - 1 - A c) = A c by omega]; omega
  · rfl
theorem WA.fold {n : Nat} {ea eb : Int} {A B L F : Nat → Int} (h : WA n ea eb A B L F) {ln : Int} (h1 : 1 ≤ ln) (h2 : ln < ea) (pt ov : Bool) : WA n (fe ea ln) eb (fA ea A ln pt) B (fL n A B L ln pt ov) (fF A F ln pt) := by
  obtain ⟨w1, w2, w3, w4, w5, w6, w7, w8, w9, w10, w11⟩ := h
  refine ⟨w1, ?_, w3, ?_, w5, ?_, w7, ?_, ?_, ?_, ?_⟩
  · unfold fe; split <;> omega
  · intro c hc
    have := w4 c hc
    rw [fA_ft]
    unfold fe fsh ft
    cases pt
    · simp only [fgo_f, Bool.false_eq_true, if_false]
      (repeat' split) <;> omega
    · simp only [fgo_t, if_true]
      (repeat' split) <;> omega
  · intro u hu0 hu1
    have hs : sd ln pt (u - fsh ea ln pt) := by
      unfold sd fsh fe at *
      cases pt
      · refine ⟨fun h => (by cases h), fun _ => ?_⟩
        simp; omega
      · refine ⟨fun _ => ?_, fun h => (by cases h)⟩
        simp
        split at hu1 <;> split <;> omega
    have hr : (0 ≤ u - fsh ea ln pt ∧ u - fsh ea ln pt < ea) ∨ (0 ≤ 2 * ln - 1 - (u - fsh ea ln pt) ∧ 2 * ln - 1 - (u - fsh ea ln pt) < ea) := by
      unfold fsh fe at *
      cases pt
      · simp only [Bool.false_eq_true, if_false]
        split at hu1 <;> omega
      · simp only [if_true]
        split at hu1 <;> split <;> omega
    rcases hr with g | g
    · obtain ⟨c, hc, e⟩ := w6 _ g.1 g.2
      refine ⟨c, hc, ?_⟩
      rw [fA_ft, (ft_iff hs).mpr (Or.inl e)]; omega
    · obtain ⟨c, hc, e⟩ := w6 _ g.1 g.2
      refine ⟨c, hc, ?_⟩
      rw [fA_ft, (ft_iff hs).mpr (Or.inr e)]; omega
  · intro c hc
    have g1 := w8 c hc
    have g2 := hh_nonneg n A B (2 * ln - 1 - A c) (B c)
    rw [hh_fA_at]
    unfold fL
    split <;> cases ov <;> simp <;> omega
  · intro c d hc hd ha hb hl
    have hc8 := w8 c hc
    have hd8 := w8 d hd
    have hcd : ft A ln pt c = ft A ln pt d := by rw [fA_ft, fA_ft] at ha; omega
    have hm : A c = A d ∨ A c = 2 * ln - 1 - A d := by
      unfold ft at hcd
      split at hcd <;> split at hcd <;> omega
    unfold fL at hl
    unfold ft at hcd
    rcases hm with g | g
    · have hg : fgo A ln pt c = fgo A ln pt d := by unfold fgo; rw [g]
      rw [hg, g, hb] at hl
      refine w9 c d hc hd g hb ?_
      split at hl <;> omega
    · have hg : fgo A ln pt c = ! fgo A ln pt d := by
        rw [fgo_xor, fgo_xor]
        have : decide (A c < ln) = ! decide (A d < ln) := by
          by_cases q : A d < ln <;> simp [q] <;> omega
        rw [this]
        cases pt <;> simp
      have e1 : 2 * ln - 1 - A c = A d := by omega
      have e2 : 2 * ln - 1 - A d = A c := by omega
      rw [e1, e2, hb] at hl
      rw [hb] at hc8
      cases hq : fgo A ln pt d <;> rw [hq] at hl hg <;> simp at hg <;> rw [hg] at hl <;> cases ov <;> simp at hl <;> omega
  · intro c hc
    have := w10 c hc
    unfold fF
    split <;> omega
  · intro u v l hl hlt
    by_cases hs : sd ln pt (u - fsh ea ln pt)
    · have e : u = (u - fsh ea ln pt) + fsh ea ln pt := by omega
      rw [e, hh_fA hs] at hlt
      generalize u - fsh ea ln pt = t at *
      have hst : ∀ c, A c = t → fgo A ln pt c = false := by
        intro c hc
        unfold fgo
        cases pt
        · have := hs.2 rfl
          simp; omega
        · have := hs.1 rfl
          simp; omega
      have hgo : ∀ c, A c = 2 * ln - 1 - t → fgo A ln pt c = true := by
        intro c hc
        unfold fgo
        cases pt
        · have := hs.2 rfl
          simp; omega
        · have := hs.1 rfl
          simp; omega
      have hh0 := hh_nonneg n A B t v
      have hh1 := hh_nonneg n A B (2 * ln - 1 - t) v
      have stay : ∀ l' : Int, 0 ≤ l' → l' < hh n A B t v → l = l' + (if ov then 0 else hh n A B (2 * ln - 1 - t) v) → ∃ c, c < n ∧ fA ea A ln pt c = t + fsh ea ln pt ∧ B c = v ∧ fL n A B L ln pt ov c = l := by
        intro l' g0 g1 g2
        obtain ⟨c, hc, ha, hb, hL⟩ := w11 t v l' g0 g1
        refine ⟨c, hc, ?_, hb, ?_⟩
        · rw [fA_ft]; unfold ft; rw [hst c ha]; simp [ha]
        · unfold fL; rw [hst c ha]; simp [ha, hb, hL]; rw [g2]
      have gone : ∀ l' : Int, 0 ≤ l' → l' < hh n A B (2 * ln - 1 - t) v → l = (if ov then hh n A B t v else 0) + (hh n A B (2 * ln - 1 - t) v - 1 - l') → ∃ c, c < n ∧ fA ea A ln pt c = t + fsh ea ln pt ∧ B c = v ∧ fL n A B L ln pt ov c = l := by
        intro l' g0 g1 g2
        obtain ⟨c, hc, ha, hb, hL⟩ := w11 (2 * ln - 1 - t) v l' g0 g1
        refine ⟨c, hc, ?_, hb, ?_⟩
        · rw [fA_ft]; unfold ft; rw [hgo c ha]; simp [ha]; omega
        · unfold fL; rw [hgo c ha, if_pos rfl, ha, hb, hL, show 2 * ln - 1 - (2 * ln - 1 - t) = t by omega, g2]
      rw [e] 
      cases ov
      · simp only [Bool.false_eq_true, if_false] at stay gone
        rcases Int.lt_or_le l (hh n A B (2 * ln - 1 - t) v) with g | g
        · exact gone (hh n A B (2 * ln - 1 - t) v - 1 - l) (by omega) (by omega) (by omega)
        · exact stay (l - hh n A B (2 * ln - 1 - t) v) (by omega) (by omega) (by omega)
      · simp only [if_true] at stay gone
        rcases Int.lt_or_le l (hh n A B t v) with g | g
        · exact stay l (by omega) (by omega) (by omega)
        · exact gone (hh n A B t v + hh n A B (2 * ln - 1 - t) v - 1 - l) (by omega) (by omega) (by omega)
    · exfalso
      have : hh n (fA ea A ln pt) B u v = 0 := by
        refine hh_zero (fun c _ ha _ => hs ?_)
        have := ft_sd A ln pt c
        rw [fA_ft] at ha
        rw [← ha, show ft A ln pt c + fsh ea ln pt - fsh ea ln pt = ft A ln pt c by omega]
        exact this
      omega
