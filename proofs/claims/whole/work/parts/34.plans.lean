/-! ===== the plans: what is found, counted, best ===== -/
abbrev tcP (P : Pk) (a b : Nat) : Int := tc (P 0) (P 1) (P 2) (P 3) a b
def T1 (a b : Nat) : Pk → Bool := fun P => decide (tcP P a b = 1)
theorem tcP_sim {n : Nat} {S S' : St} {sa sb : Bool} (w : WF n S) (h : SM n S S' sa sb) {a b : Nat} (ha : a < n) (hb : b < n) : tcP S'.2 a b = tcP S.2 a b := Sm.tc w h.2.2 ha hb
theorem T1_TI {n a b : Nat} (ha : a < n) (hb : b < n) : TI n (T1 a b) := fun S S' sa sb w h => by
  unfold T1
  rw [tcP_sim w h ha hb]
theorem stp0 {n : Nat} {S : St} {k : Nat} (e : k % 2 = 0) : stp n S k = (fun q => if q = 0 then fe (S.1 0) (kln k) else S.1 q,
     fun q => if q = 0 then fA (S.1 0) (S.2 0) (kln k) (kpt k) else if q = 1 then S.2 1 else if q = 2 then fL n (S.2 0) (S.2 1) (S.2 2) (kln k) (kpt k) (kov k) else fF (S.2 0) (S.2 3) (kln k) (kpt k)) := by
  unfold stp; rw [if_pos e]
theorem stp1 {n : Nat} {S : St} {k : Nat} (e : k % 2 = 1) : stp n S k = (fun q => if q = 1 then fe (S.1 1) (kln k) else S.1 q,
     fun q => if q = 0 then S.2 0 else if q = 1 then fA (S.1 1) (S.2 1) (kln k) (kpt k) else if q = 2 then fL n (S.2 1) (S.2 0) (S.2 2) (kln k) (kpt k) (kov k) else fF (S.2 1) (S.2 3) (kln k) (kpt k)) := by
  unfold stp; rw [if_neg (by omega)]
theorem tcP_stp0 {n : Nat} {S : St} {k : Nat} (e : k % 2 = 0) (a b : Nat) : tcP (stp n S k).2 a b = tc (fA (S.1 0) (S.2 0) (kln k) (kpt k)) (S.2 1) (fL n (S.2 0) (S.2 1) (S.2 2) (kln k) (kpt k) (kov k)) (fF (S.2 0) (S.2 3) (kln k) (kpt k)) a b := by
  rw [stp0 e]; rfl
theorem tcP_stp1 {n : Nat} {S : St} {k : Nat} (e : k % 2 = 1) (a b : Nat) : tcP (stp n S k).2 a b = tc (fA (S.1 1) (S.2 1) (kln k) (kpt k)) (S.2 0) (fL n (S.2 1) (S.2 0) (S.2 2) (kln k) (kpt k) (kov k)) (fF (S.2 1) (S.2 3) (kln k) (kpt k)) a b := by
  rw [stp1 e, ← tc_swap]; rfl
theorem WF.fr {n : Nat} {S : St} (w : WF n S) {c : Nat} (hc : c < n) : S.2 3 c = 0 ∨ S.2 3 c = 1 := w.2.2.2.2.2.2.2.2.2.1 c hc
theorem tcP_same {n : Nat} {S : St} (w : WF n S) {a b : Nat} (ha : a < n) (hb : b < n) (h0 : S.2 0 a = S.2 0 b) (h1 : S.2 1 a = S.2 1 b) (k : Nat) : tcP (stp n S k).2 a b = tcP S.2 a b := by
  rcases Nat.mod_two_eq_zero_or_one k with e | e
  · rw [tcP_stp0 e]
    exact tc_same (w.fr ha) (w.fr hb) h0 h1
  · rw [tcP_stp1 e, ← tc_swap]
    rw [tc_swap]
    rw [tc_same (w.fr ha) (w.fr hb) h1 h0, tc_swap]
/-- the folds by which two come to touch face to face, of those that lie apart -/
def MC (n : Nat) (S : St) (a b k : Nat) : Prop :=
  S.2 (1 - k % 2) a = S.2 (1 - k % 2) b ∧ S.2 (k % 2) a + S.2 (k % 2) b = 2 * kln k - 1 ∧ S.2 3 a = (if kov k then 1 else 0) ∧ S.2 3 b = (if kov k then 1 else 0) ∧
  (if kov k then S.2 2 a = hh n (S.2 0) (S.2 1) (S.2 0 a) (S.2 1 a) - 1 ∧ S.2 2 b = hh n (S.2 0) (S.2 1) (S.2 0 b) (S.2 1 b) - 1 else S.2 2 a = 0 ∧ S.2 2 b = 0)
theorem tcP_meet {n : Nat} {S : St} (w : WF n S) {a b : Nat} (ha : a < n) (hb : b < n) (hap : ¬ (S.2 0 a = S.2 0 b ∧ S.2 1 a = S.2 1 b)) {k : Nat} (hp : kpt k = false) : tcP (stp n S k).2 a b = 1 ↔ MC n S a b k := by
  rcases Nat.mod_two_eq_zero_or_one k with e | e
  · rw [tcP_stp0 e, hp]
    unfold MC
    rw [e]
    exact tc_meet w ha hb hap
  · rw [tcP_stp1 e, hp]
    unfold MC
    rw [e]
    rw [← hh_swap n (S.2 0) (S.2 1) (S.2 0 a) (S.2 1 a), ← hh_swap n (S.2 0) (S.2 1) (S.2 0 b) (S.2 1 b)]
    exact tc_meet w.swap ha hb (fun q => hap ⟨q.2, q.1⟩)
/-- the one fold of PART 0, if there is one, by which two come to touch that don't -/
def mt (n a b : Nat) (S : St) : Option Nat := if S.2 0 a = S.2 0 b ∧ S.2 1 a = S.2 1 b then none else p12.find? (fun k => decide (vl S k) && T1 a b (stp n S k).2)
theorem find_fs {l : List Nat} {p : Nat → Bool} {f : Nat → Option (List Nat)} (h : ∀ k ∈ l, f k = if p k then some [k] else none) : l.findSome? f = (l.find? p).map ([·]) := by
  induction l with
  | nil => rfl
  | cons x l ih =>
    rw [List.findSome?_cons, List.find?_cons, h x (by simp)]
    cases hp : p x
    · simpa using ih (fun k hk => h k (by simp [hk]))
    · simp
theorem mt_eq {n a b : Nat} {S : St} (w : WF n S) (ha : a < n) (hb : b < n) (h0 : rS n (T1 a b) p12 0 S = none) : (mt n a b S).map ([·]) = rS n (T1 a b) p12 1 S := by
  have hT : ¬ T1 a b S.2 = true := by
    unfold rS at h0
    intro q
    rw [if_pos q] at h0
    cases h0
  unfold mt
  by_cases hs : S.2 0 a = S.2 0 b ∧ S.2 1 a = S.2 1 b
  · rw [if_pos hs]
    symm
    unfold rS
    rw [List.findSome?_eq_none_iff.mpr]
    · rfl
    · intro k _
      by_cases hv : vl S k
      · rw [if_pos hv]
        unfold rS
        have : ¬ T1 a b (stp n S k).2 = true := by
          unfold T1 at *
          rw [tcP_same w ha hb hs.1 hs.2]
          exact hT
        rw [if_neg this]
        rfl
      · rw [if_neg hv]
  · rw [if_neg hs]
    symm
    show p12.findSome? _ = _
    refine find_fs (fun k _ => ?_)
    by_cases hv : vl S k
    · rw [if_pos hv]
      unfold rS
      by_cases q : T1 a b (stp n S k).2 = true
      · rw [if_pos q, q]; simp [hv]
      · rw [if_neg q]
        simp [q]
    · rw [if_neg hv]
      simp [hv]
def rM (n a b : Nat) : Nat → St → Option (List Nat)
  | 0, S => (mt n a b S).map ([·])
  | m + 1, S => p12.findSome? (fun k => if vl S k then (rM n a b m (stp n S k)).map (k :: ·) else none)
theorem rM_eq {n a b : Nat} (ha : a < n) (hb : b < n) : ∀ (m : Nat) (S : St), WF n S → rS n (T1 a b) p12 m S = none → rM n a b m S = rS n (T1 a b) p12 (m + 1) S
  | 0, S, w, h => mt_eq w ha hb h
  | m + 1, S, w, h => by
    show p12.findSome? _ = p12.findSome? _
    have h' : ∀ k ∈ p12, vl S k → rS n (T1 a b) p12 m (stp n S k) = none := by
      intro k hk hv
      unfold rS at h
      have := List.findSome?_eq_none_iff.mp h k hk
      rw [if_pos hv] at this
      simpa using this
    have hc : ∀ (l : List Nat) (f g : Nat → Option (List Nat)), (∀ k ∈ l, f k = g k) → l.findSome? f = l.findSome? g := by
      intro l f g hfg
      induction l with
      | nil => rfl
      | cons x l ih => rw [List.findSome?_cons, List.findSome?_cons, hfg x (by simp), ih (fun k hk => hfg k (by simp [hk]))]
    refine hc _ _ _ (fun k hk => ?_)
    by_cases hv : vl S k
    · rw [if_pos hv, if_pos hv, rM_eq ha hb m _ (w.fd hv) (h' k hk hv)]
    · rw [if_neg hv, if_neg hv]
theorem rS_len {n : Nat} {T : Pk → Bool} {ks : List Nat} : ∀ (m : Nat) (S : St) (row : List Nat), rS n T ks m S = some row → row.length = m ∧ ∀ k ∈ row, k ∈ ks
  | 0, S, row, h => by
    unfold rS at h
    split at h
    · cases h; simp
    · cases h
  | m + 1, S, row, h => by
    unfold rS at h
    obtain ⟨k, hk, hf⟩ := List.exists_of_findSome?_eq_some h
    by_cases hv : vl S k
    · rw [if_pos hv] at hf
      rw [Option.map_eq_some_iff] at hf
      obtain ⟨r, hr, e⟩ := hf
      obtain ⟨h1, h2⟩ := rS_len m _ _ hr
      subst e
      refine ⟨by simp [h1], fun x hx => ?_⟩
      rcases List.mem_cons.mp hx with q | q
      · rw [q]; exact hk
      · exact h2 x q
    · rw [if_neg hv] at hf; cases hf
/-! how many plans -/
def cF (n : Nat) (T : Pk → Bool) (ks : List Nat) : Nat → St → Nat
  | 0, S => if T S.2 then 1 else 0
  | m + 1, S => (ks.map (fun k => if vl S k then cF n T ks m (stp n S k) else 0)).sum
/-- one axis' folds of a packet and of the turned one, side by side -/
def hn (e : Nat) (s z pt : Bool) (k : Nat) : Nat := k % 2 + 2 * pt.toNat + 4 * (xor (kov k) z).toNat + 8 * (if s then e - (k / 8 + 1) - 1 else k / 8)
theorem hat_hn (e : Nat → Int) (sa sb pt : Bool) (k : Nat) : hat e sa sb pt k = hn (e (k % 2)).toNat (if k % 2 = 0 then sa else sb) (xor sa sb) pt k := rfl
theorem sum_axis {g g' : Nat → Nat} {e a : Nat} {s z : Bool} (ha : a < 2) (he : 1 ≤ e ∧ e ≤ 4) (h0 : ∀ k, k < 24 → k % 2 = a → e ≤ k / 8 + 1 → g k = 0 ∧ g' k = 0) (h1 : ∀ k, k < 24 → k % 2 = a → k / 8 + 1 < e → g' (hn e s z (kpt k) k) = g k) :
    g' a + g' (a + 2) + g' (a + 4) + g' (a + 6) + g' (a + 8) + g' (a + 10) + g' (a + 12) + g' (a + 14) + g' (a + 16) + g' (a + 18) + g' (a + 20) + g' (a + 22) = g a + g (a + 2) + g (a + 4) + g (a + 6) + g (a + 8) + g (a + 10) + g (a + 12) + g (a + 14) + g (a + 16) + g (a + 18) + g (a + 20) + g (a + 22) := by
  have ea : a = 0 ∨ a = 1 := by omega
  have ee : e = 1 ∨ e = 2 ∨ e = 3 ∨ e = 4 := by omega
  have all : ∀ k, k < 24 → k % 2 = a → (e ≤ k / 8 + 1 → g k = 0 ∧ g' k = 0) ∧ (k / 8 + 1 < e → g' (hn e s z (kpt k) k) = g k) := fun k hk hm => ⟨h0 k hk hm, h1 k hk hm⟩
  clear h0 h1
  rcases ea with ea | ea <;> subst ea
  · have q0 := all 0 (by decide) (by decide)
    have q1 := all 2 (by decide) (by decide)
    have q2 := all 4 (by decide) (by decide)
    have q3 := all 6 (by decide) (by decide)
    have q4 := all 8 (by decide) (by decide)
    have q5 := all 10 (by decide) (by decide)
    have q6 := all 12 (by decide) (by decide)
    have q7 := all 14 (by decide) (by decide)
    have q8 := all 16 (by decide) (by decide)
    have q9 := all 18 (by decide) (by decide)
    have q10 := all 20 (by decide) (by decide)
    have q11 := all 22 (by decide) (by decide)
    clear all
    rcases ee with ee | ee | ee | ee <;> subst ee <;> cases s <;> cases z <;> simp [hn, kov, kpt] at q0 q1 q2 q3 q4 q5 q6 q7 q8 q9 q10 q11 ⊢ <;> omega
  · have q0 := all 1 (by decide) (by decide)
    have q1 := all 3 (by decide) (by decide)
    have q2 := all 5 (by decide) (by decide)
    have q3 := all 7 (by decide) (by decide)
    have q4 := all 9 (by decide) (by decide)
    have q5 := all 11 (by decide) (by decide)
    have q6 := all 13 (by decide) (by decide)
    have q7 := all 15 (by decide) (by decide)
    have q8 := all 17 (by decide) (by decide)
    have q9 := all 19 (by decide) (by decide)
    have q10 := all 21 (by decide) (by decide)
    have q11 := all 23 (by decide) (by decide)
    clear all
    rcases ee with ee | ee | ee | ee <;> subst ee <;> cases s <;> cases z <;> simp [hn, kov, kpt] at q0 q1 q2 q3 q4 q5 q6 q7 q8 q9 q10 q11 ⊢ <;> omega
theorem sum_a24 (f : Nat → Nat) : (a24.map f).sum = (f 0 + f 2 + f 4 + f 6 + f 8 + f 10 + f 12 + f 14 + f 16 + f 18 + f 20 + f 22) + (f 1 + f 3 + f 5 + f 7 + f 9 + f 11 + f 13 + f 15 + f 17 + f 19 + f 21 + f 23) := by
  simp only [a24, List.map_cons, List.map_nil, List.sum_cons, List.sum_nil]
  omega
theorem sum_p12 (f : Nat → Nat) : (p12.map f).sum = f 0 + f 1 + f 4 + f 5 + f 8 + f 9 + f 12 + f 13 + f 16 + f 17 + f 20 + f 21 := by
  simp only [p12, List.map_cons, List.map_nil, List.sum_cons, List.sum_nil]
  omega
theorem cF_sim {n : Nat} {T : Pk → Bool} (hT : TI n T) : ∀ (m : Nat) (S S' : St) (sa sb : Bool), WF n S → WF n S' → SM n S S' sa sb → cF n T a24 m S' = cF n T a24 m S
  | 0, S, S', sa, sb, w, _, h => by
    unfold cF
    rw [hT S S' sa sb w h]
  | m + 1, S, S', sa, sb, w, w', h => by
    unfold cF
    rw [sum_a24, sum_a24]
    have r0 := w.2.1
    have r1 := w.2.2.1
    have x0 := h.1
    have x1 := h.2.1
    have key : ∀ k, k < 24 → ∀ a, k % 2 = a → ((S.1 a).toNat ≤ k / 8 + 1 → (if vl S k then cF n T a24 m (stp n S k) else 0) = 0 ∧ (if vl S' k then cF n T a24 m (stp n S' k) else 0) = 0) ∧
        (k / 8 + 1 < (S.1 a).toNat → (if vl S' (hn (S.1 a).toNat (if a = 0 then sa else sb) (xor sa sb) (kpt k) k) then cF n T a24 m (stp n S' (hn (S.1 a).toNat (if a = 0 then sa else sb) (xor sa sb) (kpt k) k)) else 0) = (if vl S k then cF n T a24 m (stp n S k) else 0)) := by
      intro k hk a ha
      subst ha
      have xx : S'.1 (k % 2) = S.1 (k % 2) := by rcases Nat.mod_two_eq_zero_or_one k with e | e <;> rw [e] <;> assumption
      have rr : 1 ≤ S.1 (k % 2) ∧ S.1 (k % 2) ≤ 4 := by rcases Nat.mod_two_eq_zero_or_one k with e | e <;> rw [e] <;> assumption
      constructor
      · intro hle
        have v1 : ¬ vl S k := by unfold vl kln; omega
        have v2 : ¬ vl S' k := by unfold vl kln; omega
        rw [if_neg v1, if_neg v2]
        exact ⟨rfl, rfl⟩
      · intro hlt
        have v1 : vl S k := by unfold vl kln; omega
        obtain ⟨v2, h2⟩ := h.fd v1 (kpt k)
        rw [hat_hn] at v2 h2
        rw [if_pos v1, if_pos v2]
        exact cF_sim hT m _ _ _ _ (w.fd v1) (w'.fd v2) h2
    have a0 := sum_axis (g := fun k => if vl S k then cF n T a24 m (stp n S k) else 0) (g' := fun k => if vl S' k then cF n T a24 m (stp n S' k) else 0) (e := (S.1 0).toNat) (a := 0) (s := sa) (z := xor sa sb) (by omega) (by omega)
      (fun k hk hm => (key k hk _ hm).1) (fun k hk hm => (key k hk _ hm).2)
    have a1 := sum_axis (g := fun k => if vl S k then cF n T a24 m (stp n S k) else 0) (g' := fun k => if vl S' k then cF n T a24 m (stp n S' k) else 0) (e := (S.1 1).toNat) (a := 1) (s := sb) (z := xor sa sb) (by omega) (by omega)
      (fun k hk hm => (key k hk _ hm).1) (fun k hk hm => (key k hk _ hm).2)
    simp only [Nat.zero_add, Nat.reduceAdd] at a0 a1
    omega
theorem cF_twice {n : Nat} {T : Pk → Bool} (hT : TI n T) (m : Nat) (S : St) (w : WF n S) : cF n T a24 (m + 1) S = 2 * (p12.map (fun k => if vl S k then cF n T a24 m (stp n S k) else 0)).sum := by
  have key : ∀ k, k ∈ p12 → (if vl S (k + 2) then cF n T a24 m (stp n S (k + 2)) else 0) = (if vl S k then cF n T a24 m (stp n S k) else 0) := by
    intro k hk
    have hv : vl S (k + 2) ↔ vl S k := by
      have h1 : ∀ k ∈ p12, (k + 2) % 2 = k % 2 ∧ (k + 2) / 8 = k / 8 := by decide
      unfold vl kln
      rw [(h1 k hk).1, (h1 k hk).2]
    by_cases v : vl S (k + 2)
    · have e : hat S.1 false false false (k + 2) = k := by
        have : ∀ k ∈ p12, (k + 2) % 2 + 2 * false.toNat + 4 * (xor (kov (k + 2)) (xor false false)).toNat + 8 * ((k + 2) / 8) = k := by decide
        have h2 := this k hk
        unfold hat
        simpa using h2
      obtain ⟨h1, h2⟩ := (SM.refl n S).fd v false
      rw [e] at h1 h2
      rw [if_pos v, if_pos h1]
      exact (cF_sim hT m _ _ _ _ (w.fd v) (w.fd h1) h2).symm
    · rw [if_neg v, if_neg (fun q => v (hv.mpr q))]
  show (a24.map _).sum = _
  rw [sum_a24, sum_p12]
  have k0 := key 0 (by decide)
  have k1 := key 1 (by decide)
  have k4 := key 4 (by decide)
  have k5 := key 5 (by decide)
  have k8 := key 8 (by decide)
  have k9 := key 9 (by decide)
  have k12 := key 12 (by decide)
  have k13 := key 13 (by decide)
  have k16 := key 16 (by decide)
  have k17 := key 17 (by decide)
  have k20 := key 20 (by decide)
  have k21 := key 21 (by decide)
  simp only [Nat.zero_add, Nat.reduceAdd] at k0 k1 k4 k5 k8 k9 k12 k13 k16 k17 k20 k21
  omega
theorem cF_eq {n : Nat} {T : Pk → Bool} (hT : TI n T) : ∀ (m : Nat) (S : St), WF n S → cF n T a24 m S = 2 ^ m * cF n T p12 m S
  | 0, S, _ => by unfold cF; simp
  | m + 1, S, w => by
    rw [cF_twice hT m S w, Nat.pow_succ]
    have e : (fun k => if vl S k then cF n T a24 m (stp n S k) else 0) = (fun k => 2 ^ m * (if vl S k then cF n T p12 m (stp n S k) else 0)) := by
      funext k
      by_cases v : vl S k
      · rw [if_pos v, if_pos v, cF_eq hT m _ (w.fd v)]
      · rw [if_neg v, if_neg v, Nat.mul_zero]
    rw [e]
    have hs : ∀ (l : List Nat) (x : Nat) (f : Nat → Nat), (l.map (fun k => x * f k)).sum = x * (l.map f).sum := by
      intro l x f
      induction l with
      | nil => simp
      | cons y l ih => simp [ih, Nat.mul_add]
    rw [hs]
    show _ = 2 ^ m * 2 * (p12.map _).sum
    rw [Nat.mul_comm (2 ^ m) 2, Nat.mul_assoc]
/-! what is best -/
def TG (n : Nat) (G : Pk → Int) : Prop := ∀ (S S' : St) (sa sb : Bool), WF n S → SM n S S' sa sb → G S'.2 = G S.2
def VS (n : Nat) (G : Pk → Int) (ks : List Nat) (S : St) (g : Int) (m : Nat) (row : List Nat) : Prop :=
  (∀ m', m' ≤ 2 → rS n (fun P => decide (g < G P)) ks m' S = none) ∧ (∀ m', m' < m → rS n (fun P => decide (G P = g)) ks m' S = none) ∧ m ≤ 2 ∧ rS n (fun P => decide (G P = g)) ks m S = some row
theorem VS_eq {n : Nat} {G : Pk → Int} (hG : TG n G) {S : St} (w : WF n S) {g : Int} {m : Nat} {row : List Nat} (h : VS n G a24 S g m row) : VS n G p12 S g m row := by
  have t1 : TI n (fun P => decide (g < G P)) := fun S S' sa sb w h => by simp only [hG S S' sa sb w h]
  have t2 : TI n (fun P => decide (G P = g)) := fun S S' sa sb w h => by simp only [hG S S' sa sb w h]
  obtain ⟨h1, h2, h3, h4⟩ := h
  refine ⟨fun m' hm => ?_, fun m' hm => ?_, h3, ?_⟩
  · rw [← rS_eq t1 m' S w]; exact h1 m' hm
  · rw [← rS_eq t2 m' S w]; exact h2 m' hm
  · rw [← rS_eq t2 m S w]; exact h4
theorem VS_le {n : Nat} {G : Pk → Int} {ks : List Nat} {S : St} {g g' : Int} {m m' : Nat} {row row' : List Nat} (h : VS n G ks S g m row) (h' : VS n G ks S g' m' row') : g' ≤ g := by
  rcases Int.lt_or_le g g' with q | q
  · exfalso
    have a1 := h.1 m' h'.2.2.1
    have a2 := rS_mono (T := fun P => decide (G P = g')) (T' := fun P => decide (g < G P)) (fun P hP => by simp only [decide_eq_true_eq] at *; omega) m' S (by rw [h'.2.2.2]; rfl)
    rw [a1] at a2
    cases a2
  · exact q
theorem VS_uniq {n : Nat} {G : Pk → Int} {ks : List Nat} {S : St} {g g' : Int} {m m' : Nat} {row row' : List Nat} (h : VS n G ks S g m row) (h' : VS n G ks S g' m' row') : g = g' ∧ m = m' ∧ row = row' := by
  have e : g = g' := Int.le_antisymm (VS_le h' h) (VS_le h h')
  subst e
  have e : m = m' := by
    rcases Nat.lt_trichotomy m m' with q | q | q
    · have := h'.2.1 m q
      rw [h.2.2.2] at this; cases this
    · exact q
    · have := h.2.1 m' q
      rw [h'.2.2.2] at this; cases this
  subst e
  refine ⟨rfl, rfl, ?_⟩
  have := h.2.2.2
  rw [h'.2.2.2] at this
  exact (Option.some.inj this).symm
