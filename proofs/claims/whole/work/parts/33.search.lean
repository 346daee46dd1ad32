/-! ===== folds by their numbers, plans ===== -/
/-- how wide and high; where the cells lie -/
abbrev St : Type := (Nat → Int) × Pk
def kln (k : Nat) : Int := ((k / 8 : Nat) : Int) + 1
def kpt (k : Nat) : Bool := decide (k / 2 % 2 = 1)
def kov (k : Nat) : Bool := decide (k / 4 % 2 = 1)
def stp (n : Nat) (S : St) (k : Nat) : St :=
  if k % 2 = 0 then
    (fun q => if q = 0 then fe (S.1 0) (kln k) else S.1 q,
     fun q => if q = 0 then fA (S.1 0) (S.2 0) (kln k) (kpt k) else if q = 1 then S.2 1 else if q = 2 then fL n (S.2 0) (S.2 1) (S.2 2) (kln k) (kpt k) (kov k) else fF (S.2 0) (S.2 3) (kln k) (kpt k))
  else
    (fun q => if q = 1 then fe (S.1 1) (kln k) else S.1 q,
     fun q => if q = 0 then S.2 0 else if q = 1 then fA (S.1 1) (S.2 1) (kln k) (kpt k) else if q = 2 then fL n (S.2 1) (S.2 0) (S.2 2) (kln k) (kpt k) (kov k) else fF (S.2 1) (S.2 3) (kln k) (kpt k))
def WF (n : Nat) (S : St) : Prop := WA n (S.1 0) (S.1 1) (S.2 0) (S.2 1) (S.2 2) (S.2 3)
abbrev vl (S : St) (k : Nat) : Prop := kln k < S.1 (k % 2)
theorem kln_pos (k : Nat) : 1 ≤ kln k := by unfold kln; omega
theorem WF.fd {n : Nat} {S : St} (h : WF n S) {k : Nat} (hv : vl S k) : WF n (stp n S k) := by
  unfold stp WF
  have hk := kln_pos k
  rcases Nat.mod_two_eq_zero_or_one k with e | e
  · rw [if_pos e]
    unfold vl at hv
    rw [e] at hv
    exact WA.fold h hk hv _ _
  · rw [if_neg (by omega)]
    unfold vl at hv
    rw [e] at hv
    exact (WA.fold (WA.swap h) hk hv _ _).swap
def SM (n : Nat) (S S' : St) (sa sb : Bool) : Prop := S'.1 0 = S.1 0 ∧ S'.1 1 = S.1 1 ∧ Sm n (S.1 0) (S.1 1) (S.2 0) (S.2 1) (S.2 2) (S.2 3) (S'.2 0) (S'.2 1) (S'.2 2) (S'.2 3) sa sb
theorem SM.refl (n : Nat) (S : St) : SM n S S false false := ⟨rfl, rfl, fun c _ => by simp⟩
/-- the number of the fold of a turned packet -/
def hat (e : Nat → Int) (sa sb pt : Bool) (k : Nat) : Nat := k % 2 + 2 * pt.toNat + 4 * (xor (kov k) (xor sa sb)).toNat + 8 * (if (if k % 2 = 0 then sa else sb) then (e (k % 2)).toNat - (k / 8 + 1) - 1 else k / 8)
theorem hat_mod (e : Nat → Int) (sa sb pt : Bool) (k : Nat) : hat e sa sb pt k % 2 = k % 2 := by
  unfold hat; omega
theorem toNat_le1 (b : Bool) : b.toNat ≤ 1 := by cases b <;> simp
theorem hat_div (e : Nat → Int) (sa sb pt : Bool) (k : Nat) : hat e sa sb pt k / 8 = (if (if k % 2 = 0 then sa else sb) then (e (k % 2)).toNat - (k / 8 + 1) - 1 else k / 8) := by
  unfold hat
  have h1 := toNat_le1 pt
  have h2 := toNat_le1 (xor (kov k) (xor sa sb))
  generalize (xor (kov k) (xor sa sb)).toNat = a at *
  generalize pt.toNat = b at *
  omega
theorem hat_pt (e : Nat → Int) (sa sb pt : Bool) (k : Nat) : kpt (hat e sa sb pt k) = pt := by
  unfold kpt hat
  have h2 := toNat_le1 (xor (kov k) (xor sa sb))
  generalize (xor (kov k) (xor sa sb)).toNat = a at *
  generalize (if (if k % 2 = 0 then sa else sb) then (e (k % 2)).toNat - (k / 8 + 1) - 1 else k / 8) = m at *
  cases pt <;> simp <;> omega
theorem hat_ov (e : Nat → Int) (sa sb pt : Bool) (k : Nat) : kov (hat e sa sb pt k) = xor (kov k) (xor sa sb) := by
  have : ∀ o : Bool, decide ((k % 2 + 2 * pt.toNat + 4 * o.toNat + 8 * (if (if k % 2 = 0 then sa else sb) then (e (k % 2)).toNat - (k / 8 + 1) - 1 else k / 8)) / 4 % 2 = 1) = o := by
    intro o
    have h1 := toNat_le1 pt
    generalize pt.toNat = b at *
    generalize (if (if k % 2 = 0 then sa else sb) then (e (k % 2)).toNat - (k / 8 + 1) - 1 else k / 8) = m at *
    cases o <;> simp <;> omega
  exact this _
theorem hat_ln {n : Nat} {S : St} {k : Nat} (hv : vl S k) (sa sb pt : Bool) : kln (hat S.1 sa sb pt k) = (if (if k % 2 = 0 then sa else sb) then S.1 (k % 2) - kln k else kln k) := by
  have : kln (hat S.1 sa sb pt k) = ((hat S.1 sa sb pt k / 8 : Nat) : Int) + 1 := rfl
  rw [this, hat_div]
  unfold vl kln at *
  (repeat' split) <;> omega
theorem SM.fd {n : Nat} {S S' : St} {sa sb : Bool} (h : SM n S S' sa sb) {k : Nat} (hv : vl S k) (pt : Bool) :
    vl S' (hat S.1 sa sb pt k) ∧ SM n (stp n S k) (stp n S' (hat S.1 sa sb pt k)) (if k % 2 = 0 then xor (kpt k) pt else sa) (if k % 2 = 0 then sb else xor (kpt k) pt) := by
  obtain ⟨e0, e1, hs⟩ := h
  have hl := hat_ln (n := n) hv sa sb pt
  have hk := kln_pos k
  have hm := hat_mod S.1 sa sb pt k
  have hp := hat_pt S.1 sa sb pt k
  have ho := hat_ov S.1 sa sb pt k
  rcases Nat.mod_two_eq_zero_or_one k with e | e
  · rw [e, if_pos rfl] at hl
    rw [e] at hm
    have hv' : kln k < S.1 0 := by unfold vl at hv; rw [e] at hv; exact hv
    constructor
    · unfold vl
      rw [hm, e0, hl]
      split <;> omega
    · rw [if_pos e, if_pos e]
      unfold stp
      rw [if_pos e, if_pos hm, hl, hp, ho]
      unfold SM
      simp only [if_true, if_pos, e0, e1]
      refine ⟨?_, by simp [e1], ?_⟩
      · unfold fe
        cases sa <;> simp <;> (repeat' split) <;> omega
      · exact Sm.fold hs (kln k) (kpt k) pt (kov k)
  · have ne : ¬ k % 2 = 0 := by omega
    rw [if_neg ne, e] at hl
    rw [e] at hm
    have nm : ¬ hat S.1 sa sb pt k % 2 = 0 := by omega
    have hv' : kln k < S.1 1 := by unfold vl at hv; rw [e] at hv; exact hv
    constructor
    · unfold vl
      rw [hm, e1, hl]
      split <;> omega
    · rw [if_neg ne, if_neg ne]
      unfold stp
      rw [if_neg ne, if_neg nm, hl, hp, ho]
      unfold SM
      simp only [if_true, if_pos, e0, e1]
      refine ⟨by simp [e0], ?_, ?_⟩
      · unfold fe
        cases sb <;> simp <;> (repeat' split) <;> omega
      · rw [Bool.xor_comm sa sb]
        exact (Sm.fold hs.swap (kln k) (kpt k) pt (kov k)).swap
theorem hat_lt {n : Nat} {S : St} (w : WF n S) {k : Nat} (hk : k < 24) (sa sb pt : Bool) : hat S.1 sa sb pt k < 24 := by
  have h1 : (S.1 (k % 2)).toNat ≤ 4 := by
    obtain ⟨-, h2, h3, -⟩ := w
    rcases Nat.mod_two_eq_zero_or_one k with e | e <;> rw [e] <;> omega
  unfold hat
  have h2 := toNat_le1 pt
  have h3 := toNat_le1 (xor (kov k) (xor sa sb))
  generalize (xor (kov k) (xor sa sb)).toNat = a at *
  generalize pt.toNat = b at *
  generalize (S.1 (k % 2)).toNat = e at *
  (repeat' split) <;> omega
/-! the first of the plans of m folds -/
def rS (n : Nat) (T : Pk → Bool) (ks : List Nat) : Nat → St → Option (List Nat)
  | 0, S => if T S.2 then some [] else none
  | m + 1, S => ks.findSome? (fun k => if vl S k then (rS n T ks m (stp n S k)).map (k :: ·) else none)
def a24 : List Nat := [0, 1, 2, 3, 4, 5, 6, 7, 8, 9, 10, 11, 12, 13, 14, 15, 16, 17, 18, 19, 20, 21, 22, 23]
def p12 : List Nat := [0, 1, 4, 5, 8, 9, 12, 13, 16, 17, 20, 21]
def TI (n : Nat) (T : Pk → Bool) : Prop := ∀ (S S' : St) (sa sb : Bool), WF n S → SM n S S' sa sb → T S'.2 = T S.2
theorem mem_a24 {k : Nat} : k ∈ a24 ↔ k < 24 := by
  constructor
  · intro h
    have : ∀ k ∈ a24, k < 24 := by decide
    exact this k h
  · intro h
    have : ∀ k : Fin 24, k.1 ∈ a24 := by decide
    exact this ⟨k, h⟩
theorem rS_some_sim {n : Nat} {T : Pk → Bool} (hT : TI n T) : ∀ (m : Nat) (S S' : St) (sa sb : Bool), WF n S → WF n S' → SM n S S' sa sb → (rS n T a24 m S).isSome = true → (rS n T a24 m S').isSome = true
  | 0, S, S', sa, sb, w, _, h, hs => by
    unfold rS at *
    rw [hT S S' sa sb w h]
    exact hs
  | m + 1, S, S', sa, sb, w, w', h, hs => by
    unfold rS at *
    rw [List.findSome?_isSome_iff] at *
    obtain ⟨k, hk, hf⟩ := hs
    by_cases hv : vl S k
    · rw [if_pos hv, Option.isSome_map] at hf
      obtain ⟨h1, h2⟩ := h.fd hv false
      refine ⟨hat S.1 sa sb false k, mem_a24.mpr (hat_lt w (mem_a24.mp hk) _ _ _), ?_⟩
      rw [if_pos h1, Option.isSome_map]
      exact rS_some_sim hT m _ _ _ _ (w.fd hv) (w'.fd h1) h2 hf
    · rw [if_neg hv] at hf
      cases hf
theorem fs4 {f : Nat → Option (List Nat)} {a b c d : Nat} {l l' : List Nat} (h1 : (f c).isSome = true → (f a).isSome = true) (h2 : (f d).isSome = true → (f b).isSome = true) (hl : l.findSome? f = l'.findSome? f) : (a :: b :: c :: d :: l).findSome? f = (a :: b :: l').findSome? f := by
  simp only [List.findSome?_cons]
  cases ha : f a with
  | some x => rfl
  | none =>
    cases hb : f b with
    | some x => rfl
    | none =>
      have hc : f c = none := by
        cases hc : f c with
        | none => rfl
        | some y => rw [hc, ha] at h1; exact absurd (h1 rfl) (by simp)
      have hd : f d = none := by
        cases hd : f d with
        | none => rfl
        | some y => rw [hd, hb] at h2; exact absurd (h2 rfl) (by simp)
      simp only [hc, hd]
      exact hl
theorem rS_eq {n : Nat} {T : Pk → Bool} (hT : TI n T) : ∀ (m : Nat) (S : St), WF n S → rS n T a24 m S = rS n T p12 m S
  | 0, S, _ => rfl
  | m + 1, S, w => by
    have hb : (fun k => if vl S k then (rS n T p12 m (stp n S k)).map (k :: ·) else none) = (fun k => if vl S k then (rS n T a24 m (stp n S k)).map (k :: ·) else none) := by
      funext k
      by_cases hv : vl S k
      · rw [if_pos hv, if_pos hv, rS_eq hT m _ (w.fd hv)]
      · rw [if_neg hv, if_neg hv]
    show a24.findSome? _ = p12.findSome? _
    rw [hb]
    have key : ∀ k, k ∈ p12 → ((if vl S (k + 2) then (rS n T a24 m (stp n S (k + 2))).map ((k + 2) :: ·) else none : Option (List Nat)).isSome = true → (if vl S k then (rS n T a24 m (stp n S k)).map (k :: ·) else none : Option (List Nat)).isSome = true) := by
      intro k hk hs
      by_cases hv : vl S (k + 2)
      · rw [if_pos hv, Option.isSome_map] at hs
        have e : hat S.1 false false false (k + 2) = k := by
          have : ∀ k ∈ p12, (k + 2) % 2 + 2 * false.toNat + 4 * (xor (kov (k + 2)) (xor false false)).toNat + 8 * ((k + 2) / 8) = k := by decide
          have h2 := this k hk
          unfold hat
          simpa using h2
        obtain ⟨h1, h2⟩ := (SM.refl n S).fd hv false
        rw [e] at h1 h2
        rw [if_pos h1, Option.isSome_map]
        exact rS_some_sim hT m _ _ _ _ (w.fd hv) (w.fd h1) h2 hs
      · rw [if_neg hv] at hs
        cases hs
    unfold a24 p12
    refine fs4 (key 0 (by decide)) (key 1 (by decide)) ?_
    refine fs4 (key 4 (by decide)) (key 5 (by decide)) ?_
    refine fs4 (key 8 (by decide)) (key 9 (by decide)) ?_
    refine fs4 (key 12 (by decide)) (key 13 (by decide)) ?_
    refine fs4 (key 16 (by decide)) (key 17 (by decide)) ?_
    refine fs4 (key 20 (by decide)) (key 21 (by decide)) rfl
theorem fs_at {f : Nat → Option (List Nat)} {v : List Nat} : ∀ {l : List Nat} {j : Nat}, j < l.length → (∀ i, i < j → f (l.getD i 0) = none) → f (l.getD j 0) = some v → l.findSome? f = some v
  | [], j, hj, _, _ => by simp at hj
  | a :: l, 0, _, _, hf => by
    have : f a = some v := hf
    rw [List.findSome?_cons, this]
  | a :: l, j + 1, hj, h, hf => by
    have h0 : f a = none := h 0 (by omega)
    rw [List.findSome?_cons, h0]
    exact fs_at (l := l) (j := j) (by simpa using hj) (fun i hi => h (i + 1) (by omega)) hf
theorem fs_none {f : Nat → Option (List Nat)} {l : List Nat} (h : ∀ i, i < l.length → f (l.getD i 0) = none) : l.findSome? f = none := by
  rw [List.findSome?_eq_none_iff]
  intro x hx
  obtain ⟨i, hi, e⟩ := List.getElem_of_mem hx
  have := h i hi
  have q : l.getD i 0 = x := by rw [List.getD_eq_getElem?_getD, List.getElem?_eq_getElem hi, e]; rfl
  rw [q] at this
  exact this
/-- by a wider word more is found -/
theorem rS_mono {n : Nat} {T T' : Pk → Bool} {ks : List Nat} (hTT : ∀ P, T P = true → T' P = true) : ∀ (m : Nat) (S : St), (rS n T ks m S).isSome = true → (rS n T' ks m S).isSome = true
  | 0, S, h => by
    unfold rS at *
    by_cases q : T S.2 = true
    · rw [if_pos (hTT _ q)]; rfl
    · rw [if_neg q] at h; cases h
  | m + 1, S, h => by
    unfold rS at *
    rw [List.findSome?_isSome_iff] at *
    obtain ⟨k, hk, hf⟩ := h
    refine ⟨k, hk, ?_⟩
    by_cases hv : vl S k
    · rw [if_pos hv, Option.isSome_map] at *
      exact rS_mono hTT m _ hf
    · rw [if_neg hv] at hf; cases hf
