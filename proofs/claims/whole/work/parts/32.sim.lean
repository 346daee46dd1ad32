/-! ===== a packet turned about its axes ===== -/
def Sm (n : Nat) (ea eb : Int) (A B L F A' B' L' F' : Nat → Int) (sa sb : Bool) : Prop :=
  ∀ c, c < n → A' c = (if sa then ea - 1 - A c else A c) ∧ B' c = (if sb then eb - 1 - B c else B c) ∧
    L' c = (if xor sa sb then hh n A B (A c) (B c) - 1 - L c else L c) ∧ F' c = (if xor sa sb then 1 - F c else F c)
theorem Sm.swap {n : Nat} {ea eb : Int} {A B L F A' B' L' F' : Nat → Int} {sa sb : Bool} (h : Sm n ea eb A B L F A' B' L' F' sa sb) : Sm n eb ea B A L F B' A' L' F' sb sa := by
  intro c hc
  obtain ⟨h1, h2, h3, h4⟩ := h c hc
  rw [hh_swap, Bool.xor_comm]
  exact ⟨h2, h1, h3, h4⟩
theorem Sm.hts {n : Nat} {ea eb : Int} {A B L F A' B' L' F' : Nat → Int} {sa sb : Bool} (h : Sm n ea eb A B L F A' B' L' F' sa sb) (u v : Int) : hh n A' B' (if sa then ea - 1 - u else u) (if sb then eb - 1 - v else v) = hh n A B u v := by
  refine cnt_cong (fun k hk => ?_)
  obtain ⟨h1, h2, -, -⟩ := h k hk
  rw [h1, h2]
  have e1 : ((if sa then ea - 1 - A k else A k) = (if sa then ea - 1 - u else u)) ↔ A k = u := by cases sa <;> simp <;> omega
  have e2 : ((if sb then eb - 1 - B k else B k) = (if sb then eb - 1 - v else v)) ↔ B k = v := by cases sb <;> simp <;> omega
  simp only [e1, e2]
theorem Sm.fold {n : Nat} {ea eb : Int} {A B L F A' B' L' F' : Nat → Int} {sa sb : Bool} (h : Sm n ea eb A B L F A' B' L' F' sa sb) (ln : Int) (pt pt' ov : Bool) :
    Sm n (fe ea ln) eb (fA ea A ln pt) B (fL n A B L ln pt ov) (fF A F ln pt) (fA ea A' (if sa then ea - ln else ln) pt') B' (fL n A' B' L' (if sa then ea - ln else ln) pt' (xor ov (xor sa sb))) (fF A' F' (if sa then ea - ln else ln) pt') (xor pt pt') sb := by
  intro c hc
  obtain ⟨hA, hB, hL, hF⟩ := h c hc
  have own : hh n A' B' (A' c) (B' c) = hh n A B (A c) (B c) := by rw [hA, hB, h.hts]
  have mir : hh n A' B' (2 * (if sa then ea - ln else ln) - 1 - A' c) (B' c) = hh n A B (2 * ln - 1 - A c) (B c) := by
    rw [← h.hts (2 * ln - 1 - A c) (B c), hB, hA]
    congr 1
    cases sa <;> simp <;> omega
  have new := hh_fA_at (n := n) (ea := ea) (A := A) (B := B) (ln := ln) (pt := pt) c
  have ga := fgo_xor A ln pt c
  have gb : fgo A' (if sa then ea - ln else ln) pt' c = xor pt' (xor sa (decide (A c < ln))) := by
    rw [fgo_xor, hA]
    cases sa
    · simp
    · have : decide (ea - 1 - A c < ea - ln) = ! decide (A c < ln) := by
        by_cases q : A c < ln <;> simp [q] <;> omega
      simp only [if_true, this, Bool.true_xor]
  refine ⟨?_, hB, ?_, ?_⟩
  · unfold fA
    rw [ga, gb, hA]
    unfold fsh fe
    by_cases q : A c < ln <;> cases sa <;> cases pt <;> cases pt' <;> simp [q] <;> (repeat' split) <;> omega
  · rw [new]
    unfold fL
    rw [ga, gb, own, mir, hL]
    generalize hh n A B (A c) (B c) = h1
    generalize hh n A B (2 * ln - 1 - A c) (B c) = h2
    by_cases q : A c < ln <;> cases sa <;> cases sb <;> cases pt <;> cases pt' <;> cases ov <;> simp [q] <;> omega
  · unfold fF
    rw [ga, gb, hF]
    by_cases q : A c < ln <;> cases sa <;> cases sb <;> cases pt <;> cases pt' <;> simp [q] <;> omega
/-- how two touch -/
def tc (A B L F : Nat → Int) (c d : Nat) : Int := if A c = A d ∧ B c = B d ∧ (L c - L d = 1 ∨ L d - L c = 1) then (if F c = F d then 3 else if L c < L d then (if F c = 1 then 1 else 2) else (if F d = 1 then 1 else 2)) else 0
theorem tc_comm (A B L F : Nat → Int) (c d : Nat) : tc A B L F c d = tc A B L F d c := by
  unfold tc
  (repeat' split) <;> omega
theorem tc_swap (A B L F : Nat → Int) (c d : Nat) : tc B A L F c d = tc A B L F c d := by
  unfold tc
  (repeat' split) <;> omega
theorem tc_range (A B L F : Nat → Int) (c d : Nat) : 0 ≤ tc A B L F c d ∧ tc A B L F c d ≤ 3 := by
  unfold tc
  (repeat' split) <;> omega
theorem Sm.tc {n : Nat} {ea eb : Int} {A B L F A' B' L' F' : Nat → Int} {sa sb : Bool} (w : WA n ea eb A B L F) (h : Sm n ea eb A B L F A' B' L' F' sa sb) {c d : Nat} (hc : c < n) (hd : d < n) : tc A' B' L' F' c d = tc A B L F c d := by
  obtain ⟨hA, hB, hL, hF⟩ := h c hc
  obtain ⟨kA, kB, kL, kF⟩ := h d hd
  have f1 := w.2.2.2.2.2.2.2.2.2.1 c hc
  have f2 := w.2.2.2.2.2.2.2.2.2.1 d hd
  have e1 : A' c = A' d ↔ A c = A d := by rw [hA, kA]; cases sa <;> simp <;> omega
  have e2 : B' c = B' d ↔ B c = B d := by rw [hB, kB]; cases sb <;> simp <;> omega
  show (if _ then _ else _) = (if _ then _ else _)
  by_cases g1 : A c = A d
  · by_cases g2 : B c = B d
    · rw [g1, g2] at hL
      have e3 : (L' c - L' d = 1 ∨ L' d - L' c = 1) ↔ (L c - L d = 1 ∨ L d - L c = 1) := by
        rw [hL, kL]; cases xor sa sb <;> simp <;> omega
      by_cases g3 : L c - L d = 1 ∨ L d - L c = 1
      · have p1 : A' c = A' d ∧ B' c = B' d ∧ (L' c - L' d = 1 ∨ L' d - L' c = 1) := ⟨e1.mpr g1, e2.mpr g2, e3.mpr g3⟩
        have p2 : A c = A d ∧ B c = B d ∧ (L c - L d = 1 ∨ L d - L c = 1) := ⟨g1, g2, g3⟩
        rw [if_pos p1, if_pos p2, hF, kF, hL, kL]
        cases xor sa sb
        · simp
        · simp only [if_true]
          rcases f1 with f1 | f1 <;> rcases f2 with f2 | f2 <;> rw [f1, f2] <;> simp <;> (repeat' split) <;> omega
      · rw [if_neg (fun q => g3 (e3.mp q.2.2)), if_neg (fun q => g3 q.2.2)]
    · rw [if_neg (fun q => g2 (e2.mp q.2.1)), if_neg (fun q => g2 q.2.1)]
  · rw [if_neg (fun q => g1 (e1.mp q.1)), if_neg (fun q => g1 q.1)]
/-- two that lie at one place stay as they lie -/
theorem tc_same {n : Nat} {ea : Int} {A B L F : Nat → Int} {ln : Int} {pt ov : Bool} {c d : Nat} (f1 : F c = 0 ∨ F c = 1) (f2 : F d = 0 ∨ F d = 1) (ha : A c = A d) (hb : B c = B d) : tc (fA ea A ln pt) B (fL n A B L ln pt ov) (fF A F ln pt) c d = tc A B L F c d := by
  have hg : fgo A ln pt c = fgo A ln pt d := by unfold fgo; rw [ha]
  have e1 : fA ea A ln pt c = fA ea A ln pt d := by unfold fA; rw [hg, ha]
  cases q : fgo A ln pt d
  · have l1 : fL n A B L ln pt ov c - fL n A B L ln pt ov d = L c - L d := by unfold fL; rw [hg, q, ha, hb]; simp; omega
    have l2 : fF A F ln pt c = F c := by unfold fF; rw [hg, q]; simp
    have l3 : fF A F ln pt d = F d := by unfold fF; rw [q]; simp
    unfold tc
    rw [l2, l3]
    have e3 : (fL n A B L ln pt ov c - fL n A B L ln pt ov d = 1 ∨ fL n A B L ln pt ov d - fL n A B L ln pt ov c = 1) ↔ (L c - L d = 1 ∨ L d - L c = 1) := by omega
    have e4 : (fL n A B L ln pt ov c < fL n A B L ln pt ov d) ↔ L c < L d := by omega
    simp only [e3, e4, e1, ha]
  · have l1 : fL n A B L ln pt ov c - fL n A B L ln pt ov d = L d - L c := by unfold fL; rw [hg, q, ha, hb]; simp; omega
    have l2 : fF A F ln pt c = 1 - F c := by unfold fF; rw [hg, q]; simp
    have l3 : fF A F ln pt d = 1 - F d := by unfold fF; rw [q]; simp
    unfold tc
    rw [l2, l3]
    by_cases g3 : L c - L d = 1 ∨ L d - L c = 1
    · have p1 : fA ea A ln pt c = fA ea A ln pt d ∧ B c = B d ∧ (fL n A B L ln pt ov c - fL n A B L ln pt ov d = 1 ∨ fL n A B L ln pt ov d - fL n A B L ln pt ov c = 1) := ⟨e1, hb, by omega⟩
      have p2 : A c = A d ∧ B c = B d ∧ (L c - L d = 1 ∨ L d - L c = 1) := ⟨ha, hb, g3⟩
      rw [if_pos p1, if_pos p2]
      rcases f1 with f1 | f1 <;> rcases f2 with f2 | f2 <;> rw [f1, f2] <;> simp <;> (repeat' split) <;> omega
    · rw [if_neg (fun q => g3 (by have := q.2.2; omega)), if_neg (fun q => g3 q.2.2)]
/-- the one fold of PART 0 by which two that lie apart touch face to face -/
theorem tc_meet {n : Nat} {ea eb : Int} {A B L F : Nat → Int} (w : WA n ea eb A B L F) {ln : Int} {ov : Bool} {c d : Nat} (hc : c < n) (hd : d < n) (hap : ¬ (A c = A d ∧ B c = B d)) :
    tc (fA ea A ln false) B (fL n A B L ln false ov) (fF A F ln false) c d = 1 ↔ (B c = B d ∧ A c + A d = 2 * ln - 1 ∧ F c = (if ov then 1 else 0) ∧ F d = (if ov then 1 else 0) ∧
      (if ov then L c = hh n A B (A c) (B c) - 1 ∧ L d = hh n A B (A d) (B d) - 1 else L c = 0 ∧ L d = 0)) := by
  have f1 := w.2.2.2.2.2.2.2.2.2.1 c hc
  have f2 := w.2.2.2.2.2.2.2.2.2.1 d hd
  have l1 := w.2.2.2.2.2.2.2.1 c hc
  have l2 := w.2.2.2.2.2.2.2.1 d hd
  by_cases hb : B c = B d
  · have ha : A c ≠ A d := fun q => hap ⟨q, hb⟩
    by_cases hs : A c + A d = 2 * ln - 1
    · have m1 : 2 * ln - 1 - A c = A d := by omega
      have m2 : 2 * ln - 1 - A d = A c := by omega
      rw [hb] at l1 ⊢
      have e1 : fA ea A ln false c = fA ea A ln false d := by
        rw [fA_ft, fA_ft]; unfold ft; simp only [fgo_f]
        split <;> split <;> omega
      rcases Int.lt_or_le (A c) ln with g | g
      · have q1 : fgo A ln false c = true := fgo_f.mpr g
        have q2 : fgo A ln false d = false := by rw [fgo_xor]; simp; omega
        have r1 : fL n A B L ln false ov c = (if ov then hh n A B (A d) (B d) else 0) + (hh n A B (A c) (B d) - 1 - L c) := by unfold fL; rw [q1, m1, hb]; simp
        have r2 : fL n A B L ln false ov d = L d + (if ov then 0 else hh n A B (A c) (B d)) := by unfold fL; rw [q2, m2]; simp
        have r3 : fF A F ln false c = 1 - F c := by unfold fF; rw [q1]; simp
        have r4 : fF A F ln false d = F d := by unfold fF; rw [q2]; simp
        unfold tc
        rw [r1, r2, r3, r4, e1, hb]
        generalize hh n A B (A d) (B d) = u1 at *
        generalize hh n A B (A c) (B d) = u2 at *
        rcases f1 with f1 | f1 <;> rcases f2 with f2 | f2 <;> rw [f1, f2] <;> cases ov <;> simp <;> (repeat' split) <;> omega
      · have q1 : fgo A ln false d = true := fgo_f.mpr (by omega)
        have q2 : fgo A ln false c = false := by rw [fgo_xor]; simp; omega
        have r1 : fL n A B L ln false ov d = (if ov then hh n A B (A c) (B d) else 0) + (hh n A B (A d) (B d) - 1 - L d) := by unfold fL; rw [q1, m2]; simp
        have r2 : fL n A B L ln false ov c = L c + (if ov then 0 else hh n A B (A d) (B d)) := by unfold fL; rw [q2, m1, hb]; simp
        have r3 : fF A F ln false d = 1 - F d := by unfold fF; rw [q1]; simp
        have r4 : fF A F ln false c = F c := by unfold fF; rw [q2]; simp
        unfold tc
        rw [r1, r2, r3, r4, e1, hb]
        generalize hh n A B (A d) (B d) = u1 at *
        generalize hh n A B (A c) (B d) = u2 at *
        rcases f1 with f1 | f1 <;> rcases f2 with f2 | f2 <;> rw [f1, f2] <;> cases ov <;> simp <;> (repeat' split) <;> omega
    · have e1 : fA ea A ln false c ≠ fA ea A ln false d := by
        rw [fA_ft, fA_ft]; unfold ft; simp only [fgo_f]
        split <;> split <;> omega
      unfold tc
      rw [if_neg (fun q => e1 q.1)]
      constructor
      · intro h; omega
      · intro h; exact absurd h.2.1 hs
  · unfold tc
    rw [if_neg (fun q => hb q.2.1)]
    constructor
    · intro h; omega
    · intro h; exact absurd h.1 hb
