/-! ===== the reference: what serves best, what fits ===== -/
def P3 (n : Nat) (S : St) (m k1 k2 : Nat) : Option St :=
  if m = 0 then some S
  else if m = 1 then (if vl S k1 then some (stp n S k1) else none)
  else (if vl S k1 then (if vl (stp n S k1) k2 then some (stp n (stp n S k1) k2) else none) else none)
def rowL (m k1 k2 : Nat) : List Nat := if m = 0 then [] else if m = 1 then [k1] else [k1, k2]
def bef (m k1 k2 q1 q2 : Nat) : Prop := (m = 1 ∧ k1 < q1) ∨ (m = 2 ∧ (k1 < q1 ∨ (k1 = q1 ∧ k2 < q2)))
theorem P3_wf {n : Nat} {S S' : St} {m k1 k2 : Nat} (w : WF n S) (h : P3 n S m k1 k2 = some S') : WF n S' := by
  unfold P3 at h
  split at h
  · cases h; exact w
  · split at h
    · split at h
      · next v => cases h; exact w.fd v
      · cases h
    · split at h
      · next v =>
        split at h
        · next v2 => cases h; exact (w.fd v).fd v2
        · cases h
      · cases h
theorem P3_1 {n : Nat} {S : St} {k1 k2 : Nat} : P3 n S 1 k1 k2 = if vl S k1 then some (stp n S k1) else none := rfl
theorem P3_2 {n : Nat} {S : St} {k1 k2 : Nat} : P3 n S 2 k1 k2 = (if vl S k1 then (if vl (stp n S k1) k2 then some (stp n (stp n S k1) k2) else none) else none) := rfl
theorem rS24_none {n : Nat} {T : Pk → Bool} {S : St} {m : Nat} (hm : m ≤ 2) (h : ∀ k1 k2, k1 < 24 → k2 < 24 → ∀ S', P3 n S m k1 k2 = some S' → T S'.2 = false) : rS n T a24 m S = none := by
  rcases (show m = 0 ∨ m = 1 ∨ m = 2 by omega) with e | e | e
  · subst e
    rw [rS0, if_neg (by rw [h 0 0 (by omega) (by omega) S rfl]; simp)]
  · subst e
    rw [rS_fnx]
    refine fs24_none (fun i hi => ?_)
    unfold fnx
    by_cases v : vl S i
    · rw [if_pos v, rS0, if_neg (by rw [h i 0 hi (by omega) _ (by rw [P3_1, if_pos v])]; simp)]; rfl
    · rw [if_neg v]
  · subst e
    rw [rS_fnx]
    refine fs24_none (fun i hi => ?_)
    unfold fnx
    by_cases v : vl S i
    · rw [if_pos v, rS_fnx, fs24_none (fun j hj => ?_)]
      · rfl
      · unfold fnx
        by_cases v2 : vl (stp n S i) j
        · rw [if_pos v2, rS0, if_neg (by rw [h i j hi hj _ (by rw [P3_2, if_pos v, if_pos v2])]; simp)]; rfl
        · rw [if_neg v2]
    · rw [if_neg v]
theorem rS24_at {n : Nat} {T : Pk → Bool} {S Sb : St} {m q1 q2 : Nat} (hm : m ≤ 2) (h1 : q1 < 24) (h2 : q2 < 24) (hb : P3 n S m q1 q2 = some Sb) (hT : T Sb.2 = true) (h : ∀ k1 k2, k1 < 24 → k2 < 24 → bef m k1 k2 q1 q2 → ∀ S', P3 n S m k1 k2 = some S' → T S'.2 = false) : rS n T a24 m S = some (rowL m q1 q2) := by
  rcases (show m = 0 ∨ m = 1 ∨ m = 2 by omega) with e | e | e
  · subst e
    have : S = Sb := Option.some.inj hb
    subst this
    rw [rS0, if_pos hT]; rfl
  · subst e
    rw [rS_fnx]
    rw [P3_1] at hb
    by_cases v : vl S q1
    · rw [if_pos v] at hb
      have e := Option.some.inj hb
      refine fs24_at h1 (fun i hi => ?_) ?_
      · unfold fnx
        by_cases v' : vl S i
        · rw [if_pos v', rS0, if_neg (by rw [h i 0 (by omega) (by omega) (Or.inl ⟨rfl, hi⟩) _ (by rw [P3_1, if_pos v'])]; simp)]; rfl
        · rw [if_neg v']
      · unfold fnx
        rw [if_pos v, rS0, e, if_pos hT]; rfl
    · rw [if_neg v] at hb; cases hb
  · subst e
    rw [rS_fnx]
    rw [P3_2] at hb
    by_cases v : vl S q1
    · rw [if_pos v] at hb
      by_cases v2 : vl (stp n S q1) q2
      · rw [if_pos v2] at hb
        have e := Option.some.inj hb
        refine fs24_at h1 (fun i hi => ?_) ?_
        · unfold fnx
          by_cases v' : vl S i
          · rw [if_pos v', rS_fnx, fs24_none (fun j hj => ?_)]
            · rfl
            · unfold fnx
              by_cases v2' : vl (stp n S i) j
              · rw [if_pos v2', rS0, if_neg (by rw [h i j (by omega) hj (Or.inr ⟨rfl, Or.inl hi⟩) _ (by rw [P3_2, if_pos v', if_pos v2'])]; simp)]; rfl
              · rw [if_neg v2']
          · rw [if_neg v']
        · unfold fnx
          have hin : rS n T a24 1 (stp n S q1) = some [q2] := by
            rw [rS_fnx]
            refine fs24_at h2 (fun j hj => ?_) ?_
            · unfold fnx
              by_cases v2' : vl (stp n S q1) j
              · rw [if_pos v2', rS0, if_neg (by rw [h q1 j h1 (by omega) (Or.inr ⟨rfl, Or.inr ⟨rfl, hj⟩⟩) _ (by rw [P3_2, if_pos v, if_pos v2'])]; simp)]; rfl
              · rw [if_neg v2']
            · unfold fnx
              rw [if_pos v2, rS0, e, if_pos hT]; rfl
          rw [if_pos v, hin]; rfl
      · rw [if_neg v2] at hb; cases hb
    · rw [if_neg v] at hb; cases hb
/-- the best of what was tried -/
def DB (n : Nat) (S : St) (G : Pk → Int) (Pr : Nat → Nat → Nat → Prop) (g : Sg) : Prop :=
  ∃ (gb : Int) (mb q1 q2 : Nat) (Sb : St), g 0 19 = J gb ∧ g 0 20 = J mb ∧ g 0 21 = J (encL (rowL mb q1 q2)) ∧ (0 ≤ gb ∧ gb ≤ 144) ∧ mb ≤ 2 ∧ q1 < 24 ∧ q2 < 24 ∧ P3 n S mb q1 q2 = some Sb ∧ G Sb.2 = gb ∧
    (∀ m k1 k2, m ≤ 2 → k1 < 24 → k2 < 24 → Pr m k1 k2 → ∀ S', P3 n S m k1 k2 = some S' → G S'.2 < gb ∨ (G S'.2 = gb ∧ mb ≤ m)) ∧ (∀ k1 k2, k1 < 24 → k2 < 24 → bef mb k1 k2 q1 q2 → ∀ S', P3 n S mb k1 k2 = some S' → G S'.2 < gb)
theorem DB.cong {n : Nat} {S : St} {G : Pk → Int} {Pr Pr' : Nat → Nat → Nat → Prop} {g g' : Sg} (h : DB n S G Pr g) (h0 : g' 0 = g 0) (hp : ∀ m k1 k2, m ≤ 2 → k1 < 24 → k2 < 24 → Pr' m k1 k2 → Pr m k1 k2 ∨ P3 n S m k1 k2 = none) : DB n S G Pr' g' := by
  obtain ⟨gb, mb, q1, q2, Sb, a1, a2, a3, a4, a5, a6, a7, a8, a9, a10, a11⟩ := h
  refine ⟨gb, mb, q1, q2, Sb, by rw [h0]; exact a1, by rw [h0]; exact a2, by rw [h0]; exact a3, a4, a5, a6, a7, a8, a9, fun m k1 k2 hm h1 h2 hpr S' hS => ?_, a11⟩
  rcases hp m k1 k2 hm h1 h2 hpr with q | q
  · exact a10 m k1 k2 hm h1 h2 q S' hS
  · rw [q] at hS; cases hS
theorem DB.vs {n : Nat} {S : St} {G : Pk → Int} {Pr : Nat → Nat → Nat → Prop} {g : Sg} (h : DB n S G Pr g) (hp : ∀ m k1 k2, m ≤ 2 → k1 < 24 → k2 < 24 → Pr m k1 k2) : ∃ (gb : Int) (mb : Nat) (row : List Nat), VS n G a24 S gb mb row ∧ g 0 19 = J gb ∧ g 0 20 = J mb ∧ g 0 21 = J (encL row) ∧ row.length = mb ∧ mb ≤ 2 ∧ (∀ k ∈ row, k < 24) := by
  obtain ⟨gb, mb, q1, q2, Sb, a1, a2, a3, a4, a5, a6, a7, a8, a9, a10, a11⟩ := h
  have hv : VS n G a24 S gb mb (rowL mb q1 q2) := by
    refine ⟨fun m' hm => ?_, fun m' hm => ?_, a5, ?_⟩
    · refine rS24_none hm (fun k1 k2 h1 h2 S' hS => ?_)
      have := a10 m' k1 k2 hm h1 h2 (hp m' k1 k2 hm h1 h2) S' hS
      simp only [decide_eq_false_iff_not]
      omega
    · refine rS24_none (by omega) (fun k1 k2 h1 h2 S' hS => ?_)
      have := a10 m' k1 k2 (by omega) h1 h2 (hp m' k1 k2 (by omega) h1 h2) S' hS
      simp only [decide_eq_false_iff_not]
      omega
    · refine rS24_at a5 a6 a7 a8 (by simp [a9]) (fun k1 k2 h1 h2 hb S' hS => ?_)
      have := a11 k1 k2 h1 h2 hb S' hS
      simp only [decide_eq_false_iff_not]
      omega
  have hl := rS_len mb S _ hv.2.2.2
  exact ⟨gb, mb, rowL mb q1 q2, hv, a1, a2, a3, hl.1, a5, fun k hk => mem_a24.mp (hl.2 k hk)⟩
def FQ (L : Nat) (μ z : Sg) : Prop := (∀ q, q ≠ 0 → q ≠ 9 → q ≠ 10 → q ≠ 11 → q ≠ 12 → z q = μ q) ∧ (∀ i, i ≠ 19 → i ≠ 20 → i ≠ 21 → z 0 i = μ 0 i) ∧ (∀ i, i < 64 * (L + 1) → z 9 i = μ 9 i) ∧ (∀ i, i < 2 * L + 2 → z 10 i = μ 10 i)
theorem FQ.refl (L : Nat) (μ : Sg) : FQ L μ μ := ⟨fun _ _ _ _ _ _ => rfl, fun _ _ _ _ => rfl, fun _ _ => rfl, fun _ _ => rfl⟩
theorem FQ.trans {L : Nat} {μ z y : Sg} (h : FQ L μ z) (h' : FQ L z y) : FQ L μ y := ⟨fun q a b c d e => by rw [h'.1 q a b c d e, h.1 q a b c d e], fun i a b c => by rw [h'.2.1 i a b c, h.2.1 i a b c], fun i hi => by rw [h'.2.2.1 i hi, h.2.2.1 i hi], fun i hi => by rw [h'.2.2.2 i hi, h.2.2.2 i hi]⟩
theorem FQ.down {L L' : Nat} {μ z : Sg} (h : FQ L μ z) (hl : L' ≤ L) : FQ L' μ z := ⟨h.1, h.2.1, fun i hi => h.2.2.1 i (by omega), fun i hi => h.2.2.2 i (by omega)⟩
theorem FQ.td {W H L : Nat} {μ z : Sg} (h : FQ L μ z) (ht : TD W H μ) : TD W H z := ht.cong (h.1 2 (by omega) (by omega) (by omega) (by omega) (by omega))
theorem FQ.h9 {n : Nat} {S : St} {L L' : Nat} {μ z : Sg} (h : FQ L μ z) (hl : L' ≤ L) (hn : n ≤ 16) (h9 : H9 n S L' μ) : H9 n S L' z := h9.cong hn (fun i hi => h.2.2.1 i (by omega)) (fun i hi => h.2.2.2 i (by omega))
theorem FR.fq {L : Nat} {μ z : Sg} (h : FR L μ z) : FQ L μ z := ⟨fun q _ b c d e => h.1 q b c d e, fun i _ _ _ => by rw [h.1 0 (by omega) (by omega) (by omega) (by omega)], h.2.1, h.2.2⟩
theorem tries_ok {W H : Nat} {S S1 : St} {g : Sg} {tr : Int64} (hn : W * H ≤ 16) {m k1 k2 : Nat} (hm : m ≤ 2) (h1 : k1 < 24) (h2 : k2 < 24) (w1 : WF (W * H) S1) (hS1 : P3 (W * H) S m k1 k2 = some S1) (ht : TD W H g) (h9 : H9 (W * H) S1 m g) {wt : Nat → Int} (hw : ∀ i, i < 16 → g 2 (6 + i) = J (wt i) ∧ 0 ≤ wt i ∧ wt i ≤ 9) {c : Nat} (hc : c < W * H) {Pr : Nat → Nat → Nat → Prop}
    (hd : DB (W * H) S (fun P => gn wt P c (W * H)) Pr g) (hpr : ∀ j1 j2, j1 < 24 → j2 < 24 → bef m j1 j2 k1 k2 → Pr m j1 j2) :
    Ok (f_X9_tries g tr (J m) (J c) (J (encL (rowL m k1 k2)))) (fun z => FQ 2 g z ∧ H9 (W * H) S1 m z ∧ DB (W * H) S (fun P => gn wt P c (W * H)) (fun m' j1 j2 => Pr m' j1 j2 ∨ (m' = m ∧ (m = 0 ∨ j1 = k1) ∧ (m ≤ 1 ∨ j2 = k2))) z) := by
  obtain ⟨gb, mb, q1, q2, Sb, a1, a2, a3, a4, a5, a6, a7, a8, a9, a10, a11⟩ := hd
  have gv : 0 ≤ gn wt S1.2 c (W * H) ∧ gn wt S1.2 c (W * H) ≤ 144 := by
    have := gn_bd (wt := wt) (P := S1.2) (c := c) (k := W * H) (fun i hi => (hw i (by omega)).2)
    omega
  have same : ∀ j1 j2, (m = 0 ∨ j1 = k1) → (m ≤ 1 ∨ j2 = k2) → P3 (W * H) S m j1 j2 = P3 (W * H) S m k1 k2 := by
    intro j1 j2 e1 e2
    rcases (show m = 0 ∨ m = 1 ∨ m = 2 by omega) with e | e | e
    · subst e; rfl
    · subst e; rw [P3_1, P3_1, show j1 = k1 by omega]
    · subst e; rw [P3_2, P3_2, show j1 = k1 by omega, show j2 = k2 by omega]
  have ge := gain_eq (tr := tr) w1 ht (by omega) h9 (fun i hi => (hw i hi).1) hc
  have upd : gb < gn wt S1.2 c (W * H) ∨ (gn wt S1.2 c (W * H) = gb ∧ m < mb) → Ok (j_X9_tries_1 g (J m) (J (encL (rowL m k1 k2))) (J (gn wt S1.2 c (W * H)))) (fun z => FQ 2 g z ∧ H9 (W * H) S1 m z ∧ DB (W * H) S (fun P => gn wt P c (W * H)) (fun m' j1 j2 => Pr m' j1 j2 ∨ (m' = m ∧ (m = 0 ∨ j1 = k1) ∧ (m ≤ 1 ∨ j2 = k2))) z) := by
    intro hu
    unfold j_X9_tries_1
    rw [Ok_some]
    have hf : FQ 2 g (sg_st (sg_st (sg_st g 0 19 (J (gn wt S1.2 c (W * H)))) 0 20 (J m)) 0 21 (J (encL (rowL m k1 k2)))) := by
      refine ⟨fun q q0 _ _ _ _ => by funext i; rw [sgn q0, sgn q0, sgn q0], fun i b1 b2 b3 => by rw [sgs, if_neg b3, sgs, if_neg b2, sgs, if_neg b1], fun i _ => by rw [sgn (by omega), sgn (by omega), sgn (by omega)], fun i _ => by rw [sgn (by omega), sgn (by omega), sgn (by omega)]⟩
    refine ⟨hf, hf.h9 hm hn h9, gn wt S1.2 c (W * H), m, k1, k2, S1, ?_, ?_, ?_, gv, hm, h1, h2, hS1, rfl, fun m' j1 j2 hm' hj1 hj2 hpp S' hS => ?_, fun j1 j2 hj1 hj2 hb S' hS => ?_⟩
    · rw [sgs, if_neg (by omega), sgs, if_neg (by omega), sgs, if_pos rfl]
    · rw [sgs, if_neg (by omega), sgs, if_pos rfl]
    · rw [sgs, if_pos rfl]
    · rcases hpp with hpp | ⟨e, e1, e2⟩
      · have := a10 m' j1 j2 hm' hj1 hj2 hpp S' hS
        omega
      · subst e
        rw [same j1 j2 e1 e2, hS1] at hS
        rw [← Option.some.inj hS]
        exact Or.inr ⟨rfl, Nat.le_refl _⟩
    · have := a10 m j1 j2 hm hj1 hj2 (hpr j1 j2 hj1 hj2 hb) S' hS
      omega
  have keep : ¬ (gb < gn wt S1.2 c (W * H) ∨ (gn wt S1.2 c (W * H) = gb ∧ m < mb)) → FQ 2 g g ∧ H9 (W * H) S1 m g ∧ DB (W * H) S (fun P => gn wt P c (W * H)) (fun m' j1 j2 => Pr m' j1 j2 ∨ (m' = m ∧ (m = 0 ∨ j1 = k1) ∧ (m ≤ 1 ∨ j2 = k2))) g := by
    intro hu
    refine ⟨FQ.refl 2 g, h9, gb, mb, q1, q2, Sb, a1, a2, a3, a4, a5, a6, a7, a8, a9, fun m' j1 j2 hm' hj1 hj2 hpp S' hS => ?_, a11⟩
    rcases hpp with hpp | ⟨e, e1, e2⟩
    · exact a10 m' j1 j2 hm' hj1 hj2 hpp S' hS
    · subst e
      rw [same j1 j2 e1 e2, hS1] at hS
      rw [← Option.some.inj hS]
      show gn wt S1.2 c (W * H) < gb ∨ (gn wt S1.2 c (W * H) = gb ∧ mb ≤ m')
      omega
  unfold f_X9_tries
  rw [ge, Option.bind_some, a1, a2]
  simp (disch := omega) only [jlt, jeq, jle]
  by_cases q : gb < gn wt S1.2 c (W * H)
  · rw [if_pos q]; exact upd (Or.inl q)
  · rw [if_neg q]
    by_cases q2 : gn wt S1.2 c (W * H) = gb
    · rw [if_pos q2]
      by_cases q3 : (mb : Int) ≤ (m : Int)
      · rw [if_pos q3, Ok_some]; exact keep (by omega)
      · rw [if_neg q3]; exact upd (Or.inr ⟨q2, by omega⟩)
    · rw [if_neg q2, Ok_some]; exact keep (by omega)
