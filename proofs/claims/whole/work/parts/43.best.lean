/-! ===== the class's plans: best, counted ===== -/
theorem gn_cong {wt : Nat → Int} {P P' : Pk} {c : Nat} : ∀ {k : Nat}, (∀ i, i < k → tcP P' c i = tcP P c i) → gn wt P' c k = gn wt P c k
  | 0, _ => rfl
  | k + 1, h => by rw [gn_succ, gn_succ, gn_cong (fun i hi => h i (by omega)), h k (by omega)]
theorem gn_TG {n : Nat} {wt : Nat → Int} {c : Nat} (hc : c < n) : TG n (fun P => gn wt P c n) := fun S S' sa sb w h => gn_cong (fun i hi => tcP_sim w h hc hi)
theorem allT_TI {n : Nat} {qa qb : Nat → Nat} : ∀ {m : Nat}, (∀ i, i < m → qa i < n ∧ qb i < n) → TI n (fun P => allT qa qb P m)
  | 0, _ => fun _ _ _ _ _ _ => rfl
  | m + 1, hr => fun S S' sa sb w h => by
    have h1 : allT qa qb S'.2 m = allT qa qb S.2 m := allT_TI (m := m) (fun i hi => hr i (by omega)) S S' sa sb w h
    show (allT qa qb S'.2 m && _) = (allT qa qb S.2 m && _)
    rw [h1, tcP_sim w h (hr m (by omega)).1 (hr m (by omega)).2]
def Pr (m p m' p' : Nat) : Prop := (m' < m ∧ p' < plN m') ∨ (m' = m ∧ p' < p)
def BGI (n : Nat) (S : St) (G : Pk → Int) (m p : Nat) (gb : Int) (g : Sg) : Prop :=
  (∀ m' p', Pr m p m' p' → ∀ S', PLs n S m' p' = some S' → G S'.2 ≤ gb) ∧ ∃ mb pb Sb, mb ≤ 2 ∧ pb < plN mb ∧ Pr m p mb pb ∧ PLs n S mb pb = some Sb ∧ G Sb.2 = gb ∧ g 0 0 = J mb ∧ (∀ i, i < mb → g 1 i = J ((rw_ mb pb).getD i 0)) ∧ (∀ m' p', Pr m p m' p' → (m' < mb ∨ (m' = mb ∧ p' < pb)) → ∀ S', PLs n S m' p' = some S' → G S'.2 < gb)
theorem BGI.keep {n : Nat} {S : St} {G : Pk → Int} {m p : Nat} {gb : Int} {g g' : Sg} (h : BGI n S G m p gb g) (h0 : g' 0 0 = g 0 0) (h1 : g' 1 = g 1) (hx : ∀ S', PLs n S m p = some S' → G S'.2 ≤ gb) : BGI n S G m (p + 1) gb g' := by
  obtain ⟨a1, mb, pb, Sb, a2, a3, a4, a5, a6, a7, a8, a9⟩ := h
  have sp : ∀ m' p', Pr m (p + 1) m' p' → Pr m p m' p' ∨ (m' = m ∧ p' = p) := by
    intro m' p' hp
    unfold Pr at *
    omega
  refine ⟨fun m' p' hp S' hS => ?_, mb, pb, Sb, a2, a3, by unfold Pr at *; omega, a5, a6, by rw [h0, a7], fun i hi => by rw [h1, a8 i hi], fun m' p' hp hlt S' hS => ?_⟩
  · rcases sp m' p' hp with q | ⟨q1, q2⟩
    · exact a1 m' p' q S' hS
    · subst q1; subst q2; exact hx S' hS
  · rcases sp m' p' hp with q | ⟨q1, q2⟩
    · exact a9 m' p' q hlt S' hS
    · subst q1; subst q2
      unfold Pr at a4
      omega
theorem BGI.new {n : Nat} {S : St} {G : Pk → Int} {m p : Nat} {gb : Int} {g g' : Sg} (h : BGI n S G m p gb g) (hm : m ≤ 2) (hp : p < plN m) {S1 : St} (hS : PLs n S m p = some S1) (hgt : gb < G S1.2) (h0 : g' 0 0 = J m) (h1 : ∀ i, i < m → g' 1 i = J ((rw_ m p).getD i 0)) : BGI n S G m (p + 1) (G S1.2) g' := by
  obtain ⟨a1, -⟩ := h
  have sp : ∀ m' p', Pr m (p + 1) m' p' → Pr m p m' p' ∨ (m' = m ∧ p' = p) := by
    intro m' p' hp
    unfold Pr at *
    omega
  refine ⟨fun m' p' hp S' hS' => ?_, m, p, S1, hm, hp, by unfold Pr; omega, hS, rfl, h0, h1, fun m' p' hp hlt S' hS' => ?_⟩
  · rcases sp m' p' hp with q | ⟨q1, q2⟩
    · have := a1 m' p' q S' hS'; omega
    · subst q1; subst q2
      rw [hS] at hS'
      rw [Option.some.inj hS']
      exact Int.le_refl _
  · rcases sp m' p' hp with q | ⟨q1, q2⟩
    · have := a1 m' p' q S' hS'; omega
    · omega
theorem BGI.next {n : Nat} {S : St} {G : Pk → Int} {m : Nat} {gb : Int} {g : Sg} (h : BGI n S G m (plN m) gb g) : BGI n S G (m + 1) 0 gb g := by
  have sp : ∀ m' p', Pr (m + 1) 0 m' p' ↔ Pr m (plN m) m' p' := by
    intro m' p'
    unfold Pr
    constructor
    · rintro (⟨q1, q2⟩ | ⟨q1, q2⟩)
      · by_cases e : m' = m
        · subst e; exact Or.inr ⟨rfl, q2⟩
        · exact Or.inl ⟨by omega, q2⟩
      · omega
    · rintro (⟨q1, q2⟩ | ⟨q1, q2⟩)
      · exact Or.inl ⟨by omega, q2⟩
      · subst q1; exact Or.inl ⟨by omega, q2⟩
  unfold BGI at *
  simp only [sp]
  exact h
theorem BGI.vs {n : Nat} {S : St} {G : Pk → Int} {gb : Int} {g : Sg} (h : BGI n S G 3 0 gb g) : ∃ mb row, VS n G p12 S gb mb row ∧ g 0 0 = J mb ∧ ∀ i, i < mb → g 1 i = J (row.getD i 0) := by
  obtain ⟨a1, mb, pb, Sb, a2, a3, a4, a5, a6, a7, a8, a9⟩ := h
  have pr : ∀ m' p', m' ≤ 2 → p' < plN m' → Pr 3 0 m' p' := fun m' p' h1 h2 => Or.inl ⟨by omega, h2⟩
  refine ⟨mb, rw_ mb pb, ⟨fun m' hm => ?_, fun m' hm => ?_, a2, ?_⟩, a7, a8⟩
  · rw [rS_dfs]
    refine dfs_none hm (fun p hp => ?_)
    unfold Fp
    cases hS : PLs n S m' p with
    | none => rfl
    | some S' =>
      have := a1 m' p (pr m' p hm hp) S' hS
      simp only [Option.bind_some, decide_eq_true_eq]
      rw [if_neg (by omega)]; rfl
  · rw [rS_dfs]
    refine dfs_none (by omega) (fun p hp => ?_)
    unfold Fp
    cases hS : PLs n S m' p with
    | none => rfl
    | some S' =>
      have := a9 m' p (pr m' p (by omega) hp) (Or.inl hm) S' hS
      simp only [Option.bind_some, decide_eq_true_eq]
      rw [if_neg (by omega)]; rfl
  · rw [rS_dfs]
    refine dfs_at a2 a3 (fun p hp => ?_) ?_
    · unfold Fp
      cases hS : PLs n S mb p with
      | none => rfl
      | some S' =>
        have := a9 mb p (pr mb p a2 (by omega)) (Or.inr ⟨rfl, hp⟩) S' hS
        simp only [Option.bind_some, decide_eq_true_eq]
        rw [if_neg (by omega)]; rfl
    · unfold Fp
      rw [a5]
      simp only [Option.bind_some, decide_eq_true_eq]
      rw [if_pos a6]
      simp
theorem bestGain_ok {n : Nat} {S : St} {σ τ : Sg} (w : WF n S) (h : HP n S (sg_off σ 4)) (h0 : σ 0 0 = J 0) {wt : Nat → Int} (hw : ∀ i, i < 16 → τ 0 i = J (wt i) ∧ 0 ≤ wt i ∧ wt i ≤ 9) {c : Nat} (hc : c < n) :
    Ok (f_X5_findBestGain σ τ (J c)) (fun z => ∃ gb mb row, z.1 = J gb ∧ 0 ≤ gb ∧ gb ≤ 144 ∧ VS n (fun P => gn wt P c n) p12 S gb mb row ∧ z.2 0 0 = J mb ∧ ∀ i, i < mb → z.2 1 i = J (row.getD i 0)) := by
  have hn := w.1
  have gbd : ∀ P, 0 ≤ gn wt P c n ∧ gn wt P c n ≤ 144 := fun P => by
    have := gn_bd (wt := wt) (P := P) (c := c) (k := n) (fun i hi => (hw i (by omega)).2)
    omega
  simp (disch := omega) only [f_X5_findBestGain, L0, L1, L2, L3, L4, L5, L6, L7, L8, L9, L10, L11, L12, L16, L21, L22, L24, L28, L32, L35, L40, L48, L57, L59, L64, L97, L100, L122, L200, L1000000, chk_J, jlt, jle, jeq, jcl, J_add, J_sub, J_mul, J_neg, Int.toNat_natCast, Option.bind_some, sgs, sgn, if_true, if_false, Int.toNat_zero, Int.toNat_one, gainOf_eq w h hw hc]
  rw [show J 1 = J ((1 : Nat) : Int) from rfl]
  refine Ok_for3 3 (fun m x g => 1 ≤ m ∧ HP n S (sg_off g 4) ∧ ∃ gb, x = J gb ∧ 0 ≤ gb ∧ gb ≤ 144 ∧ BGI n S (fun P => gn wt P c n) m 0 gb g) (fun m x g κ hm hi hκ => ?_) (fun x g κ hi => ?_) 1000 1 _ _ (by omega) (by omega) ?_
  · obtain ⟨hm1, i1, gb, hx, gb0, gb1, i2⟩ := hi
    subst hx
    simp (disch := omega) only [s_X5_findBestGain_15, L0, L1, L2, L3, L4, L5, L6, L7, L8, L9, L10, L11, L12, L16, L21, L22, L24, L28, L32, L35, L40, L48, L57, L59, L64, L97, L100, L122, L200, L1000000, chk_J, jlt, jle, jeq, jcl, J_add, J_sub, J_mul, J_neg, Int.toNat_natCast, Option.bind_some, sgs, sgn, if_true, if_false, Int.toNat_zero, Int.toNat_one]
    rw [if_neg (by omega), show J 0 = J ((0 : Nat) : Int) from rfl]
    have hpl : plN m ≤ 144 := by unfold plN; (repeat' split) <;> omega
    refine Ok_for3 (plN m) (fun p x g => HP n S (sg_off g 4) ∧ LIv n S m p g ∧ ∃ gb, x = J gb ∧ 0 ≤ gb ∧ gb ≤ 144 ∧ BGI n S (fun P => gn wt P c n) m p gb g) (fun p x g κ' hp hj hκ' => ?_) (fun x g κ' hj => ?_) 1000 0 _ _ (by omega) (by omega) ⟨i1, fun _ q => by omega, gb, rfl, gb0, gb1, i2⟩
    · obtain ⟨j1, j2, gb, hx, gb0, gb1, j3⟩ := hj
      subst hx
      simp (disch := omega) only [s_X5_findBestGain_24, L0, L1, L2, L3, L4, L5, L6, L7, L8, L9, L10, L11, L12, L16, L21, L22, L24, L28, L32, L35, L40, L48, L57, L59, L64, L97, L100, L122, L200, L1000000, chk_J, jlt, jle, jeq, jcl, J_add, J_sub, J_mul, J_neg, Int.toNat_natCast, Option.bind_some, sgs, sgn, if_true, if_false, Int.toNat_zero, Int.toNat_one, plans_eq (show m ≤ 2 by omega)]
      rw [if_neg (by omega), Ok_bind]
      refine (lay_ok w (by omega) hp j1 j2).mono (fun z hz => ?_)
      obtain ⟨k1, k2, k3, k4, k5⟩ := hz
      rcases k5 with ⟨S', hS', z1, hz2, hz3⟩ | ⟨hS', z1⟩
      · have w' := PLs_wf w hS'
        have n1 : ¬ z.1 = J 0 := by rw [z1, jeq (by omega) (by omega)]; omega
        rw [if_neg n1]
        have hg := gainOf_eq w' hz2 hw hc
        have gv := gbd S'.2
        have key : Ok (j_X5_findBestGain_1 (J m) (J gb) (J p) κ' z (J (gn wt S'.2 c n))) (fun z => ∃ gb mb row, z.1 = J gb ∧ 0 ≤ gb ∧ gb ≤ 144 ∧ VS n (fun P => gn wt P c n) p12 S gb mb row ∧ z.2 0 0 = J mb ∧ ∀ i, i < mb → z.2 1 i = J (row.getD i 0)) := by
          simp (disch := omega) only [j_X5_findBestGain_1, L0, L1, L2, L3, L4, L5, L6, L7, L8, L9, L10, L11, L12, L16, L21, L22, L24, L28, L32, L35, L40, L48, L57, L59, L64, L97, L100, L122, L200, L1000000, chk_J, jlt, jle, jeq, jcl, J_add, J_sub, J_mul, J_neg, Int.toNat_natCast, Option.bind_some, sgs, sgn, if_true, if_false, Int.toNat_zero, Int.toNat_one]
          by_cases q : gn wt S'.2 c n ≤ gb
          · rw [if_pos q]
            refine hκ' _ _ ⟨k1, k2, gb, rfl, gb0, gb1, j3.keep k3 k4 (fun S1 h1 => ?_)⟩
            rw [hS'] at h1
            rw [← Option.some.inj h1]
            exact q
          · rw [if_neg q, note_eq (by omega), Option.bind_some]
            refine hκ' _ _ ⟨?_, fun hm2 hq => ?_, _, rfl, gv.1, gv.2, j3.new (by omega) hp hS' (show gb < gn wt S'.2 c n by omega) ?_ (fun i hi => ?_)⟩
            · exact k1.cong (fun q hq => by funext i; rw [sof, sof, sgn (by omega), san (by omega)])
            · obtain ⟨l1, l2⟩ := k2 hm2 hq
              refine ⟨by rw [sgs, if_neg (by omega), san (by omega)]; exact l1, fun v => ?_⟩
              obtain ⟨l3, l4⟩ := l2 v
              exact ⟨l3.cong (fun q hq => by funext i; rw [sof, sof, sgn (by omega), san (by omega)]), by rw [sgn (by omega), san (by omega)]; exact l4⟩
            · rw [sgs, if_pos rfl]
            · rw [sgn (by omega), sas, if_pos hi, hz3 i hi]
        rcases (show m = 1 ∨ m = 2 by omega) with e | e
        · subst e
          rw [if_neg (by omega), if_pos (by omega), hg]
          exact key
        · subst e
          rw [if_neg (by omega), if_neg (by omega), if_pos (by omega), hg]
          exact key
      · rw [if_pos z1]
        simp (disch := omega) only [j_X5_findBestGain_1, L0, L1, L2, L3, L4, L5, L6, L7, L8, L9, L10, L11, L12, L16, L21, L22, L24, L28, L32, L35, L40, L48, L57, L59, L64, L97, L100, L122, L200, L1000000, chk_J, jlt, jle, jeq, jcl, J_add, J_sub, J_mul, J_neg, Int.toNat_natCast, Option.bind_some, sgs, sgn, if_true, if_false, Int.toNat_zero, Int.toNat_one]
        rw [if_pos (by omega)]
        refine hκ' _ _ ⟨k1, k2, gb, rfl, gb0, gb1, j3.keep k3 k4 (fun S1 h1 => ?_)⟩
        rw [hS'] at h1; cases h1
    · obtain ⟨j1, j2, gb, hx, gb0, gb1, j3⟩ := hj
      subst hx
      simp (disch := omega) only [s_X5_findBestGain_24, L0, L1, L2, L3, L4, L5, L6, L7, L8, L9, L10, L11, L12, L16, L21, L22, L24, L28, L32, L35, L40, L48, L57, L59, L64, L97, L100, L122, L200, L1000000, chk_J, jlt, jle, jeq, jcl, J_add, J_sub, J_mul, J_neg, Int.toNat_natCast, Option.bind_some, sgs, sgn, if_true, if_false, Int.toNat_zero, Int.toNat_one, plans_eq (show m ≤ 2 by omega)]
      rw [if_pos (by omega)]
      exact hκ _ _ ⟨by omega, j1, gb, rfl, gb0, gb1, j3.next⟩
  · obtain ⟨-, i1, gb, hx, gb0, gb1, i2⟩ := hi
    simp (disch := omega) only [s_X5_findBestGain_15, L0, L1, L2, L3, L4, L5, L6, L7, L8, L9, L10, L11, L12, L16, L21, L22, L24, L28, L32, L35, L40, L48, L57, L59, L64, L97, L100, L122, L200, L1000000, chk_J, jlt, jle, jeq, jcl, J_add, J_sub, J_mul, J_neg, Int.toNat_natCast, Option.bind_some, sgs, sgn, if_true, if_false, Int.toNat_zero, Int.toNat_one]
    rw [if_pos (by omega), Ok_some]
    obtain ⟨mb, row, v1, v2, v3⟩ := i2.vs
    exact ⟨gb, mb, row, hx, gb0, gb1, v1, v2, v3⟩
  · refine ⟨by omega, h, _, rfl, (gbd S.2).1, (gbd S.2).2, fun m' p' hp S' hS => ?_, 0, 0, S, by omega, by decide, Or.inl ⟨by omega, by decide⟩, rfl, rfl, h0, fun i hi => by omega, fun m' p' hp hlt => ?_⟩
    · have e : m' = 0 := by unfold Pr at hp; omega
      subst e
      have : S' = S := (Option.some.inj hS).symm
      rw [this]
      exact Int.le_refl _
    · omega
/-! counted -/
theorem cnt_add (p : Nat → Bool) (a : Nat) : ∀ b : Nat, cnt p (a + b) = cnt p a + cnt (fun j => p (a + j)) b
  | 0 => by show cnt p a = cnt p a + 0; omega
  | b + 1 => by rw [← Nat.add_assoc, cnt_succ, cnt_add p a b, cnt_succ]; omega
theorem cnt_blocks (p : Nat → Bool) : ∀ N : Nat, cnt p (12 * N) = sumI (fun i => cnt (fun j => p (12 * i + j)) 12) N
  | 0 => rfl
  | N + 1 => by rw [Nat.mul_add, Nat.mul_one, cnt_add, cnt_blocks p N, sumI_succ]
theorem sum_kc (f : Nat → Nat) : sumI (fun i => ((f (kc i) : Nat) : Int)) 12 = (((p12.map f).sum : Nat) : Int) := by
  rw [sum_p12]
  simp only [sumI, show kc 0 = 0 from rfl, show kc 1 = 1 from rfl, show kc 2 = 4 from rfl, show kc 3 = 5 from rfl, show kc 4 = 8 from rfl, show kc 5 = 9 from rfl, show kc 6 = 12 from rfl, show kc 7 = 13 from rfl, show kc 8 = 16 from rfl, show kc 9 = 17 from rfl, show kc 10 = 20 from rfl, show kc 11 = 21 from rfl]
  omega
def fitB (n : Nat) (T : Pk → Bool) (S : St) (m p : Nat) : Bool := match PLs n S m p with
  | some S' => T S'.2
  | none => false
theorem fit1 (n : Nat) (T : Pk → Bool) (S : St) : cnt (fun p => fitB n T S 1 p) 12 = ((cF n T p12 1 S : Nat) : Int) := by
  have e : cF n T p12 1 S = (p12.map (fun k => if vl S k then (if T (stp n S k).2 then 1 else 0) else 0)).sum := rfl
  rw [e, ← sum_kc, ← sumI_ind]
  refine sumI_cong (fun k _ => ?_)
  unfold fitB PLs
  simp only [Nat.one_ne_zero, if_false, if_true]
  by_cases v : vl S (kc k)
  · rw [if_pos v, if_pos v]
    dsimp only
    split <;> rfl
  · rw [if_neg v, if_neg v]
    rfl
theorem fit_eq (n : Nat) (T : Pk → Bool) (S : St) {m : Nat} (hm : m ≤ 2) : cnt (fun p => fitB n T S m p) (plN m) = ((cF n T p12 m S : Nat) : Int) := by
  rcases (show m = 0 ∨ m = 1 ∨ m = 2 by omega) with e | e | e
  · subst e
    show 0 + (if T S.2 then 1 else 0) = _
    unfold cF
    split <;> rfl
  · subst e
    exact fit1 n T S
  · subst e
    have e : cF n T p12 2 S = (p12.map (fun k => if vl S k then cF n T p12 1 (stp n S k) else 0)).sum := rfl
    rw [e, ← sum_kc]
    show cnt _ (12 * 12) = _
    rw [cnt_blocks]
    refine sumI_cong (fun k hk => ?_)
    by_cases v : vl S (kc k)
    · rw [if_pos v, ← fit1]
      refine cnt_cong (fun j hj => ?_)
      unfold fitB PLs
      have e1 : (12 * k + j) / 12 = k := by omega
      have e2 : (12 * k + j) % 12 = j := by omega
      simp only [e1, e2, Nat.one_ne_zero, show ¬ (2 : Nat) = 0 by decide, show ¬ (2 : Nat) = 1 by decide, if_false, if_true]
      rw [if_pos v]
    · rw [if_neg v]
      refine cnt_zero (fun j hj => ?_)
      unfold fitB PLs
      have e1 : (12 * k + j) / 12 = k := by omega
      simp only [e1, show ¬ (2 : Nat) = 0 by decide, show ¬ (2 : Nat) = 1 by decide, if_false]
      rw [if_neg v]
theorem shl_eq {f : Nat} {m : Nat} (hf : f ≤ 144) (hm : m ≤ 2) : J f <<< (J m &&& 31) = J ((2 ^ m * f : Nat) : Int) := by
  have : ∀ (f : Fin 145) (m : Fin 3), J (f.1 : Int) <<< (J (m.1 : Int) &&& 31) = J ((2 ^ m.1 * f.1 : Nat) : Int) := by decide +kernel
  exact this ⟨f, by omega⟩ ⟨m, by omega⟩
theorem countFitting_ok {n : Nat} {S : St} {σ τ : Sg} (w : WF n S) (h : HP n S (sg_off σ 4)) {mq : Nat} {qa qb : Nat → Nat} (hmq : mq ≤ 6) (hq : HQ mq qa qb τ) (hr : ∀ i, i < mq → qa i < n ∧ qb i < n) {m : Nat} (hm : m ≤ 2) :
    Ok (f_X5_countFitting σ τ (J m)) (fun z => z.1 = J ((2 ^ m * cF n (fun P => allT qa qb P mq) p12 m S : Nat) : Int)) := by
  have hpl : plN m ≤ 144 := by unfold plN; (repeat' split) <;> omega
  simp (disch := omega) only [f_X5_countFitting, L0, L1, L2, L3, L4, L5, L6, L7, L8, L9, L10, L11, L12, L16, L21, L22, L24, L28, L32, L35, L40, L48, L57, L59, L64, L97, L100, L122, L200, L1000000, chk_J, jlt, jle, jeq, jcl, J_add, J_sub, J_mul, J_neg, Int.toNat_natCast, Option.bind_some, sgs, sgn, if_true, if_false, Int.toNat_zero, Int.toNat_one]
  rw [if_neg (by omega), if_pos (by omega), show J 0 = J ((0 : Nat) : Int) from rfl]
  refine Ok_for3 (plN m) (fun p x g => HP n S (sg_off g 4) ∧ LIv n S m p g ∧ x = J (cnt (fun p => fitB n (fun P => allT qa qb P mq) S m p) p)) (fun p x g κ hp hj hκ => ?_) (fun x g κ hj => ?_) 1000 0 _ _ (by omega) (by omega) ⟨h, fun _ q => by omega, rfl⟩
  · obtain ⟨j1, j2, hx⟩ := hj
    subst hx
    simp (disch := omega) only [s_X5_countFitting_16, L0, L1, L2, L3, L4, L5, L6, L7, L8, L9, L10, L11, L12, L16, L21, L22, L24, L28, L32, L35, L40, L48, L57, L59, L64, L97, L100, L122, L200, L1000000, chk_J, jlt, jle, jeq, jcl, J_add, J_sub, J_mul, J_neg, Int.toNat_natCast, Option.bind_some, sgs, sgn, if_true, if_false, Int.toNat_zero, Int.toNat_one, plans_eq hm]
    rw [if_neg (by omega), Ok_bind]
    refine (lay_ok w hm hp j1 j2).mono (fun z hz => ?_)
    obtain ⟨k1, k2, k3, k4, k5⟩ := hz
    rcases k5 with ⟨S', hS', z1, hz2, hz3⟩ | ⟨hS', z1⟩
    · have w' := PLs_wf w hS'
      have n1 : ¬ z.1 = J 0 := by rw [z1, jeq (by omega) (by omega)]; omega
      rw [if_neg n1]
      have hg := allTouch_eq w' hz2 hmq hq hr
      have key : Ok (j_X5_countFitting_2 (J (cnt (fun p => fitB n (fun P => allT qa qb P mq) S m p) p)) (J p) κ z (J (if allT qa qb S'.2 mq then 1 else 0))) (fun z => z.1 = J ((2 ^ m * cF n (fun P => allT qa qb P mq) p12 m S : Nat) : Int)) := by
        have fb : fitB n (fun P => allT qa qb P mq) S m p = allT qa qb S'.2 mq := by unfold fitB; rw [hS']
        cases ha : allT qa qb S'.2 mq
        · simp (disch := omega) only [j_X5_countFitting_2, L0, L1, L2, L3, L4, L5, L6, L7, L8, L9, L10, L11, L12, L16, L21, L22, L24, L28, L32, L35, L40, L48, L57, L59, L64, L97, L100, L122, L200, L1000000, chk_J, jlt, jle, jeq, jcl, J_add, J_sub, J_mul, J_neg, Int.toNat_natCast, Option.bind_some, sgs, sgn, if_true, if_false, Int.toNat_zero, Int.toNat_one, Bool.false_eq_true]
          refine hκ _ _ ⟨k1, k2, ?_⟩
          rw [cnt_succ, fb, ha]; simp
        · simp (disch := omega) only [j_X5_countFitting_2, L0, L1, L2, L3, L4, L5, L6, L7, L8, L9, L10, L11, L12, L16, L21, L22, L24, L28, L32, L35, L40, L48, L57, L59, L64, L97, L100, L122, L200, L1000000, chk_J, jlt, jle, jeq, jcl, J_add, J_sub, J_mul, J_neg, Int.toNat_natCast, Option.bind_some, sgs, sgn, if_true, if_false, Int.toNat_zero, Int.toNat_one]
          rw [if_neg (by omega)]
          refine hκ _ _ ⟨k1, k2, ?_⟩
          rw [cnt_succ, fb, ha]; simp
      rcases (show m = 0 ∨ m = 1 ∨ m = 2 by omega) with e | e | e
      · subst e
        rw [if_pos (by omega), hg]
        exact key
      · subst e
        rw [if_neg (by omega), if_pos (by omega), hg]
        exact key
      · subst e
        rw [if_neg (by omega), if_neg (by omega), if_pos (by omega), hg]
        exact key
    · rw [if_pos z1]
      refine hκ _ _ ⟨k1, k2, ?_⟩
      have fb : fitB n (fun P => allT qa qb P mq) S m p = false := by unfold fitB; rw [hS']
      rw [cnt_succ, fb]; simp
  · obtain ⟨j1, j2, hx⟩ := hj
    subst hx
    have hle := cnt_le (fun p => fitB n (fun P => allT qa qb P mq) S m p) (plN m)
    rw [fit_eq n _ S hm] at hle
    simp (disch := omega) only [s_X5_countFitting_16, j_X5_countFitting_1, L0, L1, L2, L3, L4, L5, L6, L7, L8, L9, L10, L11, L12, L16, L21, L22, L24, L28, L32, L35, L40, L48, L57, L59, L64, L97, L100, L122, L200, L1000000, chk_J, jlt, jle, jeq, jcl, J_add, J_sub, J_mul, J_neg, Int.toNat_natCast, Option.bind_some, sgs, sgn, if_true, if_false, Int.toNat_zero, Int.toNat_one, plans_eq hm]
    rw [if_pos (by omega), Ok_some, fit_eq n _ S hm]
    exact shl_eq (by omega) hm
