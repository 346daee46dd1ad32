/-! ===== what both hold ===== -/
def Bt (W H : Nat) (cd : Nat → Nat) (dn : Nat → Nat → Int) : Nat → Nat → Nat → Int
  | 0 => dn
  | k + 1 => Vb (Bt W H cd dn k) (FS W H cd k) (cd k) 1
/-- a moment: its day, its folds, how its creases are bent -/
def MOp (W H m : Nat) (ca cb : Nat → Nat) (b q o : Nat) (σ μ : Sg) (nf : Nat) (cd : Nat → Nat) (dn : Nat → Nat → Int) : Prop :=
  nf ≤ 6 ∧ VC W H cd nf ∧ σ b 1 = μ q o ∧ σ b 2 = J nf ∧ μ q (o + 1) = J nf ∧ (∀ k, k < nf → σ (b + 1) k = J (cd k) ∧ μ q (o + 2 + k) = J (cd k)) ∧ HV dn m ca cb (σ (b + 2)) ∧ RBp (Bt W H cd dn nf) W (W * H) q o μ ∧ (∀ a b, crB W (W * H) a b = true → 0 ≤ dn a b ∧ Bt W H cd dn nf a b ≤ 9)
/-- what only a text changes, and the text, and what was seen -/
def RS (T : Nat → Int) (len W H : Nat) (te : Int) (wt : Nat → Int) (mq : Nat) (qa qb : Nat → Nat) (it tn ms : Nat) (sa sb : Nat → Nat) (m : Nat) (ca cb : Nat → Nat) (σ μ : Sg) : Prop :=
  HT7 T len (sg_off σ 2) ∧ H9T T len μ ∧ OKd W H te wt mq qa qb it tn ∧ (σ 9 0 = J W ∧ σ 9 1 = J H ∧ σ 9 2 = J te ∧ (∀ i, i < 16 → σ 10 i = J (wt i)) ∧ HQ mq qa qb (sg_off σ 11)) ∧ RDr W H te wt mq qa qb it tn (μ 2) ∧
  (ms ≤ 6 ∧ HQ ms sa sb (sg_off σ 40) ∧ μ 0 10 = J ms ∧ ∀ i, i < ms → μ 7 i = J (sa i) ∧ μ 8 i = J (sb i) ∧ sa i < W * H ∧ sb i < W * H) ∧ HP (W * H) (Fl W H) (sg_off σ 14) ∧ HC W (W * H) m ca cb (sg_off σ 26)
def RN (W H m : Nat) (ca cb : Nat → Nat) (σ μ : Sg) (nf : Nat) (cd : Nat → Nat) (dn : Nat → Nat → Int) : Prop := MOp W H m ca cb 30 4 0 σ μ nf cd dn ∧ HP (W * H) (FS W H cd nf) (sg_off σ 20) ∧ HV (Bt W H cd dn nf) m ca cb (σ 29)
def RI (W H m : Nat) (ca cb : Nat → Nat) (b o im : Nat) (σ μ : Sg) : Prop := (σ b 0 = J 0 ∧ μ 6 im = J 0) ∨ (σ b 0 = J 1 ∧ μ 6 im = J 1 ∧ ∃ nf cd dn, MOp W H m ca cb b 5 o σ μ nf cd dn)
def Rel (σ : Sg) (tr : Int64) (μ : Sg) (tm : Int64) : Prop := tr = tm ∧ ∃ T len W H te wt mq qa qb it tn ms sa sb m ca cb nf cd dn, RS T len W H te wt mq qa qb it tn ms sa sb m ca cb σ μ ∧ RN W H m ca cb σ μ nf cd dn ∧ RI W H m ca cb 34 0 0 σ μ ∧ RI W H m ca cb 37 40 1 σ μ
/-- nothing that counts has changed -/
def Ev8 (σ σ' : Sg) : Prop := σ' 2 0 = σ 2 0 ∧ σ' 3 = σ 3 ∧ ∀ q, 9 ≤ q → q < 43 → σ' q = σ q
def Ev9 (μ μ' : Sg) : Prop := μ' 0 2 = μ 0 2 ∧ μ' 0 10 = μ 0 10 ∧ ∀ q, 1 ≤ q → q ≤ 8 → q ≠ 3 → μ' q = μ q
theorem Ev8.refl (σ : Sg) : Ev8 σ σ := ⟨rfl, rfl, fun _ _ _ => rfl⟩
theorem Ev9.refl (μ : Sg) : Ev9 μ μ := ⟨rfl, rfl, fun _ _ _ _ => rfl⟩
theorem Ev9.of {μ z : Sg} (h : ∀ q, q ≠ 9 → q ≠ 10 → q ≠ 11 → q ≠ 12 → z q = μ q) : Ev9 μ z := ⟨by rw [h 0 (by omega) (by omega) (by omega) (by omega)], by rw [h 0 (by omega) (by omega) (by omega) (by omega)], fun q a b c => h q (by omega) (by omega) (by omega) (by omega)⟩
theorem Ev9.ofQ {μ z : Sg} {L : Nat} (h : FQ L μ z) : Ev9 μ z := ⟨h.2.1 2 (by omega) (by omega) (by omega), h.2.1 10 (by omega) (by omega) (by omega), fun q a b c => h.1 q (by omega) (by omega) (by omega) (by omega) (by omega)⟩
theorem Ev9.trans {μ z y : Sg} (h : Ev9 μ z) (h' : Ev9 z y) : Ev9 μ y := ⟨by rw [h'.1, h.1], by rw [h'.2.1, h.2.1], fun q a b c => by rw [h'.2.2 q a b c, h.2.2 q a b c]⟩
theorem RS.cong {T : Nat → Int} {len W H : Nat} {te : Int} {wt : Nat → Int} {mq : Nat} {qa qb : Nat → Nat} {it tn ms : Nat} {sa sb : Nat → Nat} {m : Nat} {ca cb : Nat → Nat} {σ μ σ' μ' : Sg} (h : RS T len W H te wt mq qa qb it tn ms sa sb m ca cb σ μ) (h8 : Ev8 σ σ') (h9 : Ev9 μ μ') : RS T len W H te wt mq qa qb it tn ms sa sb m ca cb σ' μ' := by
  obtain ⟨a1, a2, a3, a4, a5, a6, a7, a8⟩ := h
  obtain ⟨e1, e2, e3⟩ := h8
  obtain ⟨f1, f2, f3⟩ := h9
  refine ⟨⟨a1.1, by show σ' 2 0 = _; rw [e1]; exact a1.2.1, fun j hj => by show σ' 3 j = _ ∧ _; rw [e2]; exact a1.2.2 j hj⟩, ⟨a2.1, by rw [f1]; exact a2.2.1, fun j hj => by rw [f3 1 (by omega) (by omega) (by omega)]; exact a2.2.2 j hj⟩, a3, ?_, by rw [f3 2 (by omega) (by omega) (by omega)]; exact a5, ?_, ?_, ?_⟩
  · rw [e3 9 (by omega) (by omega), e3 10 (by omega) (by omega)]
    refine ⟨a4.1, a4.2.1, a4.2.2.1, a4.2.2.2.1, ?_⟩
    have := a4.2.2.2.2
    unfold HQ sg_off at *
    rw [e3 (11 + 0) (by omega) (by omega), e3 (11 + 1) (by omega) (by omega), e3 (11 + 2) (by omega) (by omega)]
    exact this
  · refine ⟨a6.1, ?_, by rw [f2]; exact a6.2.2.1, fun i hi => by rw [f3 7 (by omega) (by omega) (by omega), f3 8 (by omega) (by omega) (by omega)]; exact a6.2.2.2 i hi⟩
    have := a6.2.1
    unfold HQ sg_off at *
    rw [e3 (40 + 0) (by omega) (by omega), e3 (40 + 1) (by omega) (by omega), e3 (40 + 2) (by omega) (by omega)]
    exact this
  · exact a7.cong (fun q hq => by unfold sg_off; exact e3 _ (by omega) (by omega))
  · exact a8.cong (by unfold sg_off; exact e3 _ (by omega) (by omega)) (by unfold sg_off; exact e3 _ (by omega) (by omega)) (by unfold sg_off; exact e3 _ (by omega) (by omega))
theorem MOp.cong {W H m : Nat} {ca cb : Nat → Nat} {b q o : Nat} {σ μ σ' μ' : Sg} {nf : Nat} {cd : Nat → Nat} {dn : Nat → Nat → Int} (h : MOp W H m ca cb b q o σ μ nf cd dn) (h1 : σ' b 1 = σ b 1) (h1' : σ' b 2 = σ b 2) (h2 : σ' (b + 1) = σ (b + 1)) (h3 : σ' (b + 2) = σ (b + 2)) (h4 : ∀ i, i < 40 → μ' q (o + i) = μ q (o + i)) (hn : W * H ≤ 16) : MOp W H m ca cb b q o σ' μ' nf cd dn := by
  obtain ⟨a1, a2, a3, a4, a5, a6, a7, a8, a9⟩ := h
  have m0 : μ' q o = μ q o := h4 0 (by omega)
  refine ⟨a1, a2, by rw [h1, m0]; exact a3, by rw [h1']; exact a4, by rw [h4 1 (by omega)]; exact a5, fun k hk => ?_, by rw [h3]; exact a7, fun c way hc hw he => ?_, a9⟩
  · rw [h2, Nat.add_assoc, h4 (2 + k) (by omega), ← Nat.add_assoc]; exact a6 k hk
  · have := a8 c way hc hw he
    rw [show o + 8 + 16 * way + c = o + (8 + 16 * way + c) by omega] at this ⊢
    rw [h4 _ (by omega)]; exact this
theorem RN.cong {W H m : Nat} {ca cb : Nat → Nat} {σ μ σ' μ' : Sg} {nf : Nat} {cd : Nat → Nat} {dn : Nat → Nat → Int} (h : RN W H m ca cb σ μ nf cd dn) (h8 : Ev8 σ σ') (h9 : Ev9 μ μ') (hn : W * H ≤ 16) : RN W H m ca cb σ' μ' nf cd dn := by
  obtain ⟨e1, e2, e3⟩ := h8
  obtain ⟨f1, f2, f3⟩ := h9
  refine ⟨h.1.cong (by rw [e3 30 (by omega) (by omega)]) (by rw [e3 30 (by omega) (by omega)]) (e3 _ (by omega) (by omega)) (e3 _ (by omega) (by omega)) (fun i _ => by rw [f3 4 (by omega) (by omega) (by omega)]) hn, h.2.1.cong (fun q hq => by unfold sg_off; exact e3 _ (by omega) (by omega)), by rw [e3 29 (by omega) (by omega)]; exact h.2.2⟩
theorem RI.cong {W H m : Nat} {ca cb : Nat → Nat} {b o im : Nat} {σ μ σ' μ' : Sg} (h : RI W H m ca cb b o im σ μ) (hb : 9 ≤ b ∧ b + 2 < 43) (h8 : Ev8 σ σ') (h9 : Ev9 μ μ') (hn : W * H ≤ 16) : RI W H m ca cb b o im σ' μ' := by
  obtain ⟨e1, e2, e3⟩ := h8
  obtain ⟨f1, f2, f3⟩ := h9
  unfold RI
  rw [e3 b (by omega) (by omega), f3 6 (by omega) (by omega) (by omega)]
  rcases h with h | ⟨h1, h2, nf, cd, dn, h3⟩
  · exact Or.inl h
  · exact Or.inr ⟨h1, h2, nf, cd, dn, h3.cong (by rw [e3 b (by omega) (by omega)]) (by rw [e3 b (by omega) (by omega)]) (e3 _ (by omega) (by omega)) (e3 _ (by omega) (by omega)) (fun i _ => by rw [f3 5 (by omega) (by omega) (by omega)]) hn⟩
theorem RS.n16 {T : Nat → Int} {len W H : Nat} {te : Int} {wt : Nat → Int} {mq : Nat} {qa qb : Nat → Nat} {it tn ms : Nat} {sa sb : Nat → Nat} {m : Nat} {ca cb : Nat → Nat} {σ μ : Sg} (h : RS T len W H te wt mq qa qb it tn ms sa sb m ca cb σ μ) : W * H ≤ 16 := Nat.mul_le_mul h.2.2.1.1.2 h.2.2.1.2.1.2
theorem Rel.cong {σ μ σ' μ' : Sg} {tr tm : Int64} (h : Rel σ tr μ tm) (h8 : Ev8 σ σ') (h9 : Ev9 μ μ') : Rel σ' tr μ' tm := by
  obtain ⟨e, T, len, W, H, te, wt, mq, qa, qb, it, tn, ms, sa, sb, m, ca, cb, nf, cd, dn, a, b, c, d⟩ := h
  have hn := a.n16
  exact ⟨e, T, len, W, H, te, wt, mq, qa, qb, it, tn, ms, sa, sb, m, ca, cb, nf, cd, dn, a.cong h8 h9, b.cong h8 h9 hn, c.cong (by omega) h8 h9 hn, d.cong (by omega) h8 h9 hn⟩
theorem RS.td {T : Nat → Int} {len W H : Nat} {te : Int} {wt : Nat → Int} {mq : Nat} {qa qb : Nat → Nat} {it tn ms : Nat} {sa sb : Nat → Nat} {m : Nat} {ca cb : Nat → Nat} {σ μ : Sg} (h : RS T len W H te wt mq qa qb it tn ms sa sb m ca cb σ μ) : TD W H μ := ⟨h.2.2.2.2.1.1, h.2.2.2.2.1.2.1⟩
/-- the packet as it is, on both sides -/
theorem now9 {T : Nat → Int} {len W H : Nat} {te : Int} {wt : Nat → Int} {mq : Nat} {qa qb : Nat → Nat} {it tn ms : Nat} {sa sb : Nat → Nat} {m : Nat} {ca cb : Nat → Nat} {σ μ : Sg} {nf : Nat} {cd : Nat → Nat} {dn : Nat → Nat → Int} {tr : Int64} (h : RS T len W H te wt mq qa qb it tn ms sa sb m ca cb σ μ) (hr : RN W H m ca cb σ μ nf cd dn) : WF (W * H) (FS W H cd nf) ∧ Ok (chk 1 40 <| f_X9_now μ tr (μ 4 (1 : Int32).toNatClampNeg)) (fun z => H9 (W * H) (FS W H cd nf) 0 z ∧ TD W H z ∧ ∀ q, q ≠ 9 → q ≠ 10 → q ≠ 11 → q ≠ 12 → z q = μ q) := by
  obtain ⟨⟨o1, o2⟩, ⟨o3, o4⟩, -⟩ := h.2.2.1
  obtain ⟨a1, a2, a3, a4, a5, a6, -⟩ := hr.1
  refine ⟨WF_FS o1 o2 o3 o4 a2, ?_⟩
  have z1 := z35.2.1
  rw [L1, chk_J (by omega), z1, a5]
  refine (now_ok o1 o2 o3 o4 h.td a1 a2 (fun k hk => by have := (a6 k hk).2; rw [Nat.zero_add] at this; exact this)).mono (fun z hz => ?_)
  exact ⟨hz.1, h.td.cong (hz.2 2 (by omega) (by omega) (by omega) (by omega)), hz.2⟩
/-! folded anew -/
theorem bendBy_ok {W n m : Nat} {ca cb : Nat → Nat} {S : St} {σ : Sg} {tr : Int64} (w : WF n S) (h : HP n S (sg_off σ 20)) (hc : HC W n m ca cb (sg_off σ 26)) {V : Nat → Nat → Int} (hv : HV V m ca cb (σ 29)) {k : Nat} (hk : k < 24) : Ok (f_X8_bendBy σ tr (J k)) (fun z => HP n (stp n S k) (sg_off z 20) ∧ HC W n m ca cb (sg_off z 26) ∧ HV (Vb V S k 1) m ca cb (z 29) ∧ ∀ q, ¬ (20 ≤ q ∧ q < 26) → q ≠ 29 → z q = σ q) := by
  unfold f_X8_bendBy
  rw [Ok_bind]
  refine (cbend_ok w h hc hv hk).mono (fun z1 hz1 => ?_)
  obtain ⟨c1, c2⟩ := hz1
  rw [Ok_bind]
  refine (bend_ok w hk (h.cong (fun q hq => by funext i; rw [sof, sof, spn (by omega)]))).mono (fun z2 hz2 => ?_)
  rw [Ok_some]
  refine ⟨HP.sp hz2 20 6 (by omega), ?_, ?_, fun q h1 h2 => ?_⟩
  · refine hc.cong ?_ ?_ ?_
    · funext i; rw [sof, sof, spn (by omega), sps (by omega), c2 (26 + 0 - 26) (by omega)]; rfl
    · funext i; rw [sof, sof, spn (by omega), sps (by omega), c2 (26 + 1 - 26) (by omega)]; rfl
    · funext i; rw [sof, sof, spn (by omega), sps (by omega), c2 (26 + 2 - 26) (by omega)]; rfl
  · intro i hi
    rw [spn (by omega), sps (by omega)]; exact c1 i hi
  · funext i
    rw [spn (by omega)]
    by_cases e : 26 ≤ q ∧ q < 30
    · rw [sps (by omega), c2 (q - 26) (by omega), sof]; congr 1; omega
    · rw [spn (by omega)]
theorem tells_ok {W H m : Nat} {ca cb : Nat → Nat} {σ : Sg} {tr : Int64} (h1 : 1 ≤ W) (h2 : W ≤ 4) (h3 : 1 ≤ H) (h4 : H ≤ 4) (hf : HP (W * H) (Fl W H) (sg_off σ 14)) (hc : HC W (W * H) m ca cb (sg_off σ 26)) {nf : Nat} {cd : Nat → Nat} {dn : Nat → Nat → Int} (hnf : nf ≤ 6) (hv : VC W H cd nf) (h30 : σ 30 2 = J nf) (hcd : ∀ k, k < nf → σ 31 k = J (cd k)) (hdn : HV dn m ca cb (σ 32)) :
    Ok (f_X8_foldAsNowTells σ tr) (fun z => HP (W * H) (FS W H cd nf) (sg_off z 20) ∧ HC W (W * H) m ca cb (sg_off z 26) ∧ HV (Bt W H cd dn nf) m ca cb (z 29) ∧ ∀ q, ¬ (20 ≤ q ∧ q < 26) → q ≠ 29 → z q = σ q) := by
  have hn : W * H ≤ 16 := Nat.mul_le_mul h2 h4
  unfold f_X8_foldAsNowTells
  rw [Ok_bind]
  refine (copy_ok hn hf).mono (fun z1 hz1 => ?_)
  have y0 := z35.1
  have y24 : (J 24).toNatClampNeg = 24 := by decide +kernel
  rw [L0, L24, ccp_J (by omega), y0, y24, show J 0 = J ((0 : Nat) : Int) from rfl]
  refine Ok_for2 nf (fun k g => HP (W * H) (FS W H cd k) (sg_off g 20) ∧ HC W (W * H) m ca cb (sg_off g 26) ∧ HV (Bt W H cd dn k) m ca cb (g 29) ∧ ∀ q, ¬ (20 ≤ q ∧ q < 26) → q ≠ 29 → g q = σ q) (fun k g κ hk hi hκ => ?_) (fun g κ hi => ?_) 1000 0 _ (by omega) (by omega) ⟨?_, ?_, ?_, ?_⟩
  · obtain ⟨i1, i2, i3, i4⟩ := hi
    obtain ⟨v1, v2⟩ := hv k hk
    have ik : (J (k : Int)).toNatClampNeg = k := by rw [jcl (by omega)]; omega
    unfold s_X8_foldAsNowTells_34
    rw [i4 30 (by omega) (by omega), h30, if_neg (by rw [jle (by omega) (by omega)]; omega), chk_J (by omega), ik, i4 31 (by omega) (by omega), hcd k hk, Ok_bind]
    refine (bendBy_ok (WF_FS h1 h2 h3 h4 (fun j hj => hv j (by omega))) i1 i2 i3 v1).mono (fun z hz => ?_)
    obtain ⟨b1, b2, b3, b4⟩ := hz
    rw [L1, J_add]
    exact hκ _ ⟨b1, b2, b3, fun q q1 q2 => by rw [b4 q q1 q2, i4 q q1 q2]⟩
  · unfold s_X8_foldAsNowTells_34
    rw [hi.2.2.2 30 (by omega) (by omega), h30, if_pos (by rw [jle (by omega) (by omega)]; omega), Ok_some]
    exact hi
  · exact (HP.sp (σ := σ) hz1 20 6 (by omega)).cong (fun q hq => by funext i; rw [sof, sof, san (by omega)])
  · exact hc.cong (by funext i; rw [sof, sof, san (by omega), spn (by omega)]) (by funext i; rw [sof, sof, san (by omega), spn (by omega)]) (by funext i; rw [sof, sof, san (by omega), spn (by omega)])
  · intro i hi
    rw [sas]
    unfold va_cpy
    have := hc.2.1
    rw [if_pos (by omega), spn (by omega), show 0 + (i - 0) = i by omega]
    exact hdn i hi
  · intro q q1 q2
    funext i
    rw [san q2, spn (by omega)]
