/-! ===== the text is read alike: item by item ===== -/
theorem tT3_iff {T : Nat → Int} {len p : Nat} : tT T len p = 3 ↔ tK T len p = 3 := by
  unfold tT wT
  constructor
  · intro h; (repeat' split at h) <;> omega
  · intro h; rw [if_neg (by omega), if_neg (by omega), if_neg (by omega), if_pos h]
theorem CDr.fin {W H : Nat} {te : Int} {wt : Nat → Int} {mq : Nat} {qa qb : Nat → Nat} {it tn : Nat} {G : Sg} (h : CDr W H te wt mq qa qb it tn G) : CDr W H te wt mq qa qb (it + 1) tn (sg_st (sg_st G 0 3 (J 0)) 0 2 (J ((it + 1 : Nat) : Int))) := by
  obtain ⟨b1, b2, b3, b4, b5, b6, b7, b8⟩ := h
  refine ⟨by rw [sgn (by omega), sgn (by omega)]; exact b1, by rw [sgn (by omega), sgn (by omega)]; exact b2, by rw [sgn (by omega), sgn (by omega)]; exact b3, fun i hi => by rw [sgn (by omega), sgn (by omega)]; exact b4 i hi, by rw [sgn (by omega), sgn (by omega)]; exact b5, fun i hi => by rw [sgn (by omega), sgn (by omega), sgn (by omega), sgn (by omega)]; exact b6 i hi, by rw [sgs, if_pos rfl], by rw [sgs, if_neg (by omega), sgs, if_neg (by omega)]; exact b8⟩
theorem CTx.s0 {T : Nat → Int} {len p : Nat} {g : Sg} (h : CTx T len p g) {k : Nat} (hk : k ≠ 1 ∧ k ≠ 2) (j : Nat) (v : Int32) : CTx T len p (sg_st g k j v) := by
  obtain ⟨⟨a1, a2, a3⟩, a4⟩ := h
  refine ⟨⟨a1, by rw [sof, sgn (by omega)]; exact a2, fun i hi => by rw [sof, sgn (by omega)]; exact a3 i hi⟩, by rw [sgn (by omega)]; exact a4⟩
theorem te_fin {G : Sg} {it : Nat} (h : G 0 2 = J it) : j_X6_takesEnd_1 G = some (J 1, sg_st (sg_st G 0 3 (J 0)) 0 2 (J ((it + 1 : Nat) : Int))) := by
  unfold j_X6_takesEnd_1
  rw [L0, L1, sgs, if_neg (by omega), h, J_add]; rfl
def BD (T : Nat → Int) (len : Nat) (μ0 : Sg) (p : Nat) (g μ : Sg) : Prop := ∃ W H te wt mq qa qb it tn μ', OKd W H te wt mq qa qb it tn ∧ CTx T len p g ∧ g 0 3 = J 0 ∧ CDr W H te wt mq qa qb it tn g ∧ H9T T len μ' ∧ TK T len p μ' μ ∧ RFr μ0 μ ∧ RDr W H te wt mq qa qb it tn (μ 3) ∧ it ≤ p
theorem fin_item {T : Nat → Int} {len p i f : Nat} {g y μ0 : Sg} {tr : Int64} {item : Nat} (hit : 4 ≤ item ∧ item ≤ 7) (hx : CTx T len p g) (hp : p ≤ len) (hi : i ≤ 200) (h03 : g 0 3 = J item) (h04 : g 0 4 = J (if item = 7 then 1 else 2))
    {W H : Nat} {te : Int} {wt : Nat → Int} {mq : Nat} {qa qb : Nat → Nat} {it tn : Nat} (ho : OKd W H te wt mq qa qb (it + 1) tn) (hle : it + 1 ≤ p)
    (hG : tT T len p = 3 → ∀ g1, TOK T len p g g1 → ∃ G, f_X6_takesEnd g1 = j_X6_takesEnd_1 G ∧ CTx T len (tE T len p) G ∧ CDr W H te wt mq qa qb it tn G)
    (hy : H9T T len y) (hy11 : y 0 11 = J p) (hyr : RFr μ0 y) (hyd : RDr W H te wt mq qa qb it tn (y 3))
    (ih : p < tE T len p → ∀ g4 μ4, BD T len μ0 (tE T len p) g4 μ4 → Ok (LC (i + 1) g4) (fun z1 => Ok (lc1 (s_X9_reads_66 tr) f μ4) (fun z2 => FIN T len μ0 z1 z2))) :
    Ok (LC i g) (fun z1 => Ok ((f_X9_token y tr).bind fun z12 => if (z12 0 12) = 3 then chk 4 35 <| chk 4 35 <| (f_X9_token (sg_st z12 3 (4 : Int32).toNatClampNeg ((z12 3 (4 : Int32).toNatClampNeg) + 1)) tr).bind fun z16 => lc1 (s_X9_reads_66 tr) f z16 else some (0, z12)) (fun z2 => FIN T len μ0 z1 z2)) := by
  have hl := hx.1.1
  obtain ⟨p1, p2⟩ := tS_pr T len hp
  obtain ⟨p3, p4, p5⟩ := tE_pr T len hp
  rw [Ok_swap, Ok_bind]
  refine (token9_ok hy hp hy11).mono (fun y1 hy1 => ?_)
  have k4 : tK T len p ≤ 4 := by rw [tK_sof hy p]; exact sof_le _
  obtain ⟨y0, y1', y2, y3, y4, y5⟩ := z35
  rw [hy1.2.2.2.1]
  simp (disch := omega) only [L3, L4, L1, chk_J, y4, jeq]
  by_cases q3 : tK T len p = 3
  · rw [if_pos (by omega), Ok_bind]
    have y34 : y1 3 4 = J it := by rw [hy1.1 3 (by omega)]; exact hyd.2.2.2.2.1
    rw [y34, J_add]
    have hy1t := (hy.tk hy1).s3 4 (J ((it : Int) + 1))
    refine (token9_ok (tr := tr) hy1t p4 (by rw [sgn (by omega)]; exact hy1.2.2.1)).mono (fun z16 hz16 => ?_)
    rw [Ok_swap]
    refine cls_end hit hx hp hi h03 h04 (fun q => absurd (tT3_iff.mpr q3) q) (fun q g1 tk => ?_)
    obtain ⟨G, e1, e2, e3⟩ := hG q g1 tk
    refine ⟨_, by rw [e1, te_fin e3.2.2.2.2.2.2.1], ih (by have := p5 (by omega); omega) _ _ ⟨W, H, te, wt, mq, qa, qb, it + 1, tn, _, ho, (e2.s0 (k := 0) ⟨by omega, by omega⟩ _ _).s0 (k := 0) ⟨by omega, by omega⟩ _ _, by rw [sgs, if_neg (by omega), sgs, if_pos rfl], e3.fin, hy1t, hz16, ((hyr.tk hy1).st 4 _).tk hz16, ?_, by omega⟩⟩
    rw [hz16.1 3 (by omega)]
    obtain ⟨d1, d2, d3, d4, d5, d6, d7, d8⟩ := hyd
    have e3' : y1 3 = y 3 := hy1.1 3 (by omega)
    refine ⟨?_, ?_, ?_, ?_, ?_, ?_, fun i hi => ?_, fun i hi => ?_⟩
    · rw [sgs, if_neg (by omega), e3']; exact d1
    · rw [sgs, if_neg (by omega), e3']; exact d2
    · rw [sgs, if_neg (by omega), e3']; exact d3
    · rw [sgs, if_neg (by omega), e3']; exact d4
    · rw [sgs, if_pos rfl]; rfl
    · rw [sgs, if_neg (by omega), e3']; exact d6
    · rw [sgs, if_neg (by omega), e3']; exact d7 i hi
    · rw [sgs, if_neg (by omega), sgs, if_neg (by omega), e3']; exact d8 i hi
  · rw [if_neg (by omega), Ok_some]
    refine cls_end hit hx hp hi h03 h04 (fun q g1 tk => ?_) (fun q g1 tk => absurd (tT3_iff.mp q) q3)
    obtain ⟨f1, f2, f3⟩ := tk.fin hx hp
    exact ⟨f1, hyr.tk hy1, Or.inl ⟨rfl, L0, _, f2, f3, hy1.2.2.2.2.1⟩⟩
/-- a refusal on both sides -/
theorem fin_no {T : Nat → Int} {len p : Nat} {g g1 μ0 y : Sg} {b : Sg} (tk : TOK T len p g g1) (hx : CTx T len p g) (hp : p ≤ len) (hyr : RFr μ0 y) (h13 : y 0 13 = J (tS T len p)) : FIN T len μ0 (J 0, g1) (J 0, y) := by
  obtain ⟨f1, f2, f3⟩ := tk.fin hx hp
  exact ⟨f1, hyr, Or.inl ⟨rfl, rfl, _, f2, f3, h13⟩⟩
theorem nm_iff {T : Nat → Int} {len p : Nat} (hp : p ≤ len) {lo hi : Int} : (nm T len p lo hi = -9 ↔ ¬ (tT T len p = 2 ∧ lo ≤ tV T len p ∧ tV T len p ≤ hi)) ∧ ((tT T len p = 2 ∧ lo ≤ tV T len p ∧ tV T len p ≤ hi) → nm T len p lo hi = tV T len p) ∧ -9 ≤ nm T len p lo hi ∧ nm T len p lo hi ≤ 99 := by
  unfold nm
  by_cases q : tT T len p = 2 ∧ lo ≤ tV T len p ∧ tV T len p ≤ hi
  · have := tV_bd hp q.1
    rw [if_pos q]
    exact ⟨⟨fun g => by omega, fun g => absurd q g⟩, fun _ => rfl, by omega, by omega⟩
  · rw [if_neg q]
    exact ⟨⟨fun _ => q, fun _ => rfl⟩, fun g => absurd g q, by omega, by omega⟩
theorem RDr.tk {T : Nat → Int} {len p : Nat} {μ z : Sg} (ht : TK T len p μ z) {W H : Nat} {te : Int} {wt : Nat → Int} {mq : Nat} {qa qb : Nat → Nat} {it tn : Nat} (h : RDr W H te wt mq qa qb it tn (μ 3)) : RDr W H te wt mq qa qb it tn (z 3) := by
  rw [ht.1 3 (by omega)]; exact h
theorem ref_num {T : Nat → Int} {len p : Nat} {g' : Sg} {tr : Int64} {lo hi : Int} {cls : Option (Int32 × Sg)} {k : Int32 × Sg → Option (Int32 × Sg)} {Q : Int32 × Sg → Int32 × Sg → Prop} (h : H9T T len g') (hp : p ≤ len) (h11 : g' 0 11 = J p) (hlo : -100 ≤ lo ∧ lo ≤ 100) (hhi : -100 ≤ hi ∧ hi ≤ 100)
    (hk : ∀ y, TK T len p g' y → Ok cls (fun z1 => Ok (k (J (nm T len p lo hi), y)) (fun z2 => Q z1 z2))) : Ok cls (fun z1 => Ok ((f_X9_number g' tr (J lo) (J hi)).bind k) (fun z2 => Q z1 z2)) := by
  rw [Ok_swap, Ok_bind]
  refine (number9_ok h hp h11 hlo hhi).mono (fun z hz => ?_)
  rw [Ok_swap]
  have e : z = (J (nm T len p lo hi), z.2) := by rw [← hz.2]
  rw [e]
  exact hk z.2 hz.1
theorem lt_tE {T : Nat → Int} {len p : Nat} (hp : p ≤ len) (h : tT T len p ≠ 0) : p < tE T len p ∧ tE T len p ≤ len := by
  obtain ⟨s1, s2⟩ := tS_pr T len hp
  obtain ⟨p3, p4, p5⟩ := tE_pr T len hp
  have := p5 (fun q => h (tT_0.mpr q))
  omega
theorem parse_ok {T : Nat → Int} {len : Nat} {μ0 : Sg} {tr : Int64} : ∀ (d p i f : Nat) (g μ : Sg), len - p ≤ d → len - p < f → p ≤ len → i ≤ p → BD T len μ0 p g μ → Ok (LC i g) (fun z1 => Ok (lc1 (s_X9_reads_66 tr) f μ) (fun z2 => FIN T len μ0 z1 z2)) := by
  intro d
  induction d with
  | zero =>
    intro p i f g μ h1 h2 h3 h4 hb
    obtain ⟨W, H, te, wt, mq, qa, qb, it, tn, μ', ho, hx, h03, hd, h9, htk, hrf, hrd, hle⟩ := hb
    have hl := hx.1.1
    obtain ⟨s1, s2⟩ := tS_pr T len h3
    have k0 : tK T len p = 0 := by unfold tK; rw [if_pos (by omega)]
    have t0 : tT T len p = 0 := tT_0.mpr k0
    refine cls_word hx h3 (by omega) ho hd h03 (by omega) (fun _ g1 tk => ?_) (fun q => absurd t0 q) (fun q => by omega)
    rw [show f = (f - 1) + 1 by omega]
    show Ok (s_X9_reads_66 tr μ _) _
    unfold s_X9_reads_66
    rw [htk.2.2.2.1, k0, if_pos (by decide +kernel), Ok_some]
    exact ⟨(tk.tx hx).1, hrf, Or.inr ⟨rfl, L1, W, H, te, wt, mq, qa, qb, it, tn, ho, tk.dr hd, hrd⟩⟩
  | succ d ihd =>
    intro p i f g μ h1 h2 h3 h4 hb
    obtain ⟨W, H, te, wt, mq, qa, qb, it, tn, μ', ho, hx, h03, hd, h9, htk, hrf, hrd, hle⟩ := hb
    have hl := hx.1.1
    obtain ⟨s1, s2⟩ := tS_pr T len h3
    obtain ⟨p3, p4, p5⟩ := tE_pr T len h3
    have k4 : tK T len p ≤ 4 := by rw [tK_sof h9 p]; exact sof_le _
    have h9' := h9.tk htk
    have vb := verb_eq (tr := tr) h3 h9 htk
    have t7 := tT_le T len p
    have hWH : W * H ≤ 16 := Nat.mul_le_mul ho.1.2 ho.2.1.2
    have hWH1 : 1 ≤ W * H := Nat.mul_le_mul ho.1.1 ho.2.1.1
    obtain ⟨r0, r1, r2, r3, r4, r5, r6, r7⟩ := hrd
    have hrd : RDr W H te wt mq qa qb it tn (μ 3) := ⟨r0, r1, r2, r3, r4, r5, r6, r7⟩
    rw [show f = (f - 1) + 1 by omega]
    generalize hf' : f - 1 = f' at *
    have refu : lc1 (s_X9_reads_66 tr) (f' + 1) μ = s_X9_reads_66 tr μ (lc1 (s_X9_reads_66 tr) f') := rfl
    rw [refu]
    unfold s_X9_reads_66
    rw [htk.2.2.2.1, vb, Option.bind_some]
    -- what comes behind an item
    have ih : ∀ (i' p' : Nat), i' + 1 ≤ p' + 1 → p < p' → p' ≤ len → p' < tE T len p' → ∀ g4 μ4, BD T len μ0 (tE T len p') g4 μ4 → Ok (LC (i' + 1) g4) (fun z1 => Ok (lc1 (s_X9_reads_66 tr) f' μ4) (fun z2 => FIN T len μ0 z1 z2)) := by
      intro i' p' hi' hp' hpl hlt g4 μ4 hb4
      have q4 := (tE_pr T len hpl).2.1
      exact ihd (tE T len p') (i' + 1) f' g4 μ4 (by omega) (by omega) q4 (by omega) hb4
    refine cls_word hx h3 (by omega) ho hd h03 (by omega) (fun t0 g1 tk => ?_) (fun tn0 hno g1 tk => ?_) (fun hmay g2 hx2 hd2 h203 h204 => ?_)
    · rw [if_pos (by rw [tT_0.mp t0]; decide +kernel), Ok_some]
      exact ⟨(tk.tx hx).1, hrf, Or.inr ⟨rfl, L1, W, H, te, wt, mq, qa, qb, it, tn, ho, tk.dr hd, hrd⟩⟩
    · have kn : ¬ tK T len p = 0 := fun q => tn0 (tT_0.mpr q)
      rw [if_neg (by rw [L0, jeq (by omega) (by omega)]; omega)]
      have fail : ∀ y : Sg, RFr μ0 y → y 0 13 = J (tS T len p) → f_X9_readsItem μ tr (J (vbN (tT T len p))) = some (J 0, y) → Ok ((f_X9_readsItem μ tr (J (vbN (tT T len p)))).bind fun z10 => if z10.1 = 0 then some (0, z10.2) else (f_X9_token z10.2 tr).bind fun z12 => if (z12 0 12) = 3 then chk 4 35 <| chk 4 35 <| (f_X9_token (sg_st z12 3 (4 : Int32).toNatClampNeg ((z12 3 (4 : Int32).toNatClampNeg) + 1)) tr).bind fun z16 => lc1 (s_X9_reads_66 tr) f' z16 else some (0, z12)) (fun z2 => FIN T len μ0 (J 0, g1) z2) := by
        intro y hy hy13 he
        rw [he, Option.bind_some]
        dsimp only
        rw [if_pos (by decide +kernel), Ok_some, L0]
        exact fin_no (b := g) tk hx h3 hy hy13
      have h13 := htk.2.2.2.2.1
      rcases (show tT T len p = 4 ∨ tT T len p = 6 ∨ tT T len p = 7 ∨ (tT T len p ≠ 4 ∧ tT T len p ≠ 5 ∧ tT T len p ≠ 6 ∧ tT T len p ≠ 7) by omega) with q | q | q | q
      · refine fail μ hrf h13 ?_
        rw [q, show vbN 4 = 0 from rfl, ri_map r4 (by omega), if_neg (by omega)]
      · refine fail μ hrf h13 ?_
        rw [q, show vbN 6 = 2 from rfl, ri_quarrel r0 r1 r3 ho.2.2.2.2.1, if_pos (by have := ho.2.2.2.2.1; omega)]
      · refine fail (sg_st (sg_st μ 3 5 (J 1)) 3 2 (J (-9))) ((hrf.st 5 _).st 2 _) (by rw [sgn (by omega), sgn (by omega)]; exact h13) ?_
        rw [q, show vbN 7 = 3 from rfl, ri_tear r5 ho.2.2.2.2.2.2.1, if_neg (by omega)]
      · refine fail μ hrf h13 ?_
        have : vbN (tT T len p) = -9 := by unfold vbN; rw [if_neg q.1, if_neg q.2.1, if_neg q.2.2.1, if_neg q.2.2.2]
        rw [this, ri_none]
    · have kn : ¬ tK T len p = 0 := fun q => by have := tT_0.mpr q; omega
      rw [if_neg (by rw [L0, jeq (by omega) (by omega)]; omega)]
      have p5 := p5 (by omega)
      have h11 := htk.2.2.1
      have n9 : ∀ a : Int, -9 ≤ a → a ≤ 99 → (J a = J (-9) ↔ a = -9) := fun a h1 h2 => jeq (by omega) (by omega)
      rcases hmay with ⟨q, it0⟩ | q | ⟨q, mq6⟩ | ⟨q, tn0⟩
      · rw [q] at h203
        rw [q, show vbN 4 = 0 from rfl, ri_map r4 (by omega), if_pos it0, bind_bind]
        have l4 : loN 4 = 1 := rfl
        have u4 : ∀ td, hiN W H 4 td = 4 := fun _ => rfl
        refine ref_num h9' p4 h11 (by omega) (by omega) (fun y1 k1 => ?_)
        dsimp only
        have N1 := nm_iff (T := T) p4 (lo := 1) (hi := 4)
        refine cls_num (item := 4) (td := 0) (fi := 0) (by omega) hx2 p4 (by omega) ho hd2 h203 h204 (fun q => by omega) (fun hno g1 tk => ?_) (fun hok g3 hx3 hd3 h303 h304 h305 _ => ?_)
        · rw [l4, u4] at hno
          have e9 := N1.1.mpr (fun g => hno ⟨g.1, g.2.1, g.2.2, by omega⟩)
          rw [e9, if_pos rfl, Option.bind_some]
          dsimp only
          rw [if_pos (by decide +kernel), Ok_some, L0]
          exact fin_no (b := g) tk hx2 p4 (hrf.tk k1) k1.2.2.2.2.1
        · rw [l4, u4] at hok
          rw [if_pos rfl] at h305
          have ev := N1.2.1 ⟨hok.1, hok.2.1, hok.2.2.1⟩
          obtain ⟨m1, m2⟩ := lt_tE p4 (show tT T len (tE T len p) ≠ 0 by omega)
          rw [ev, if_neg (by rw [n9 _ (by omega) (by omega)]; omega), bind_bind]
          generalize tV T len (tE T len p) = v1 at *
          refine ref_num (h9'.tk k1) m2 k1.2.2.1 (by omega) (by omega) (fun y2 k2 => ?_)
          dsimp only
          have N2 := nm_iff (T := T) m2 (lo := 1) (hi := 4)
          refine cls_num (item := 4) (td := 1) (fi := v1) (by omega) hx3 m2 (by omega) ho hd3 h303 h304 (fun _ => ⟨h305, by omega, by omega⟩) (fun hno g1 tk => ?_) (fun hok2 g4 hx4 hd4 h403 h404 h405 h406 => ?_)
          · rw [l4, u4] at hno
            have e9 := N2.1.mpr (fun g => hno ⟨g.1, g.2.1, g.2.2, by omega⟩)
            rw [e9, if_pos rfl, Option.bind_some]
            dsimp only
            rw [if_pos (by decide +kernel), Ok_some, L0]
            refine fin_no (b := g) tk hx3 m2 ((((hrf.tk k1).tk k2).st 0 _).st 1 _) ?_
            rw [sgn (by omega), sgn (by omega)]; exact k2.2.2.2.2.1
          · rw [l4, u4] at hok2
            rw [if_neg (by omega)] at h405
            have h406 := h406 rfl
            have ev2 := N2.2.1 ⟨hok2.1, hok2.2.1, hok2.2.2.1⟩
            obtain ⟨m3, m4⟩ := lt_tE m2 (show tT T len (tE T len (tE T len p)) ≠ 0 by omega)
            rw [ev2, if_neg (by rw [n9 _ (by omega) (by omega)]; omega), Option.bind_some]
            dsimp only
            rw [if_neg (by decide +kernel)]
            generalize tV T len (tE T len (tE T len p)) = v2 at *
            have c1 : ((v1.toNat : Nat) : Int) = v1 := by omega
            have c2 : ((v2.toNat : Nat) : Int) = v2 := by omega
            have mq0 : mq = 0 := ho.2.2.2.2.2.2.2 it0
            refine fin_item (item := 4) (W := v1.toNat) (H := v2.toNat) (te := te) (wt := wt) (mq := mq) (qa := qa) (qb := qb) (it := it) (tn := tn) (by omega) hx4 m4 (by omega) h403 h404 ⟨by omega, by omega, ho.2.2.1, ho.2.2.2.1, ho.2.2.2.2.1, fun i hi => by omega, ho.2.2.2.2.2.2.1, fun q => by omega⟩ (by omega) (fun t3 g1 tk => ?_) ((((h9'.tk k1).tk k2).s3 0 _).s3 1 _) (by rw [sgn (by omega), sgn (by omega)]; exact k2.2.2.1) ((((hrf.tk k1).tk k2).st 0 _).st 1 _) ?_ (ih (i + 1 + 1 + 1) _ (by omega) (by omega) m4)
            · have b05 : g1 0 5 = J v1 := by rw [tk.1 0 (by omega)]; exact h405
              have b06 : g1 0 6 = J v2 := by rw [tk.1 0 (by omega)]; exact h406
              obtain ⟨b1, b2, b3, b4, b5, b6, b7, b8⟩ := tk.dr hd4
              refine ⟨sg_st (sg_st g1 3 0 (J v1)) 3 1 (J v2), ?_, ((tk.tx hx4).s0 (k := 3) ⟨by omega, by omega⟩ _ _).s0 (k := 3) ⟨by omega, by omega⟩ _ _, ?_, ?_, ?_, fun i hi => ?_, ?_, fun i hi => ?_, ?_, ?_⟩
              · unfold f_X6_takesEnd
                rw [tk.2.2.2.2.1, t3, if_pos (by decide +kernel), tk.1 0 (by omega), h403, if_pos (by decide +kernel), ← tk.1 0 (by omega), b05, sgn (by omega), b06]
              · rw [sgs, if_neg (by omega), sgs, if_pos rfl, c1]
              · rw [sgs, if_pos rfl, c2]
              · rw [sgs, if_neg (by omega), sgs, if_neg (by omega)]; exact b3
              · rw [sgn (by omega), sgn (by omega)]; exact b4 i hi
              · rw [sgn (by omega), sgn (by omega)]; exact b5
              · rw [sgn (by omega), sgn (by omega), sgn (by omega), sgn (by omega)]; exact b6 i hi
              · rw [sgn (by omega), sgn (by omega)]; exact b7
              · rw [sgn (by omega), sgn (by omega)]; exact b8
            · have e3 : y2 3 = μ 3 := by rw [k2.1 3 (by omega), k1.1 3 (by omega)]
              refine ⟨?_, ?_, ?_, ?_, ?_, ?_, fun i hi => ?_, fun i hi => by omega⟩
              · rw [sgs, if_neg (by omega), sgs, if_pos rfl, c1]
              · rw [sgs, if_pos rfl, c2]
              · rw [sgs, if_neg (by omega), sgs, if_neg (by omega), e3]; exact r2
              · rw [sgs, if_neg (by omega), sgs, if_neg (by omega), e3]; exact r3
              · rw [sgs, if_neg (by omega), sgs, if_neg (by omega), e3]; exact r4
              · rw [sgs, if_neg (by omega), sgs, if_neg (by omega), e3]; exact r5
              · rw [sgs, if_neg (by omega), sgs, if_neg (by omega), e3]; exact r6 i hi
      · rw [q] at h203
        rw [q, show vbN 5 = 1 from rfl, ri_worth r0 r1, bind_bind]
        have l4 : loN 5 = 0 := rfl
        have u4 : hiN W H 5 0 = ((W * H : Nat) : Int) - 1 := rfl
        have u5 : hiN W H 5 1 = 9 := rfl
        refine ref_num h9' p4 h11 (by omega) (by omega) (fun y1 k1 => ?_)
        dsimp only
        have N1 := nm_iff (T := T) p4 (lo := 0) (hi := ((W * H : Nat) : Int) - 1)
        refine cls_num (item := 5) (td := 0) (fi := 0) (by omega) hx2 p4 (by omega) ho hd2 h203 h204 (fun q => by omega) (fun hno g1 tk => ?_) (fun hok g3 hx3 hd3 h303 h304 h305 _ => ?_)
        · rw [l4, u4] at hno
          have e9 := N1.1.mpr (fun g => hno ⟨g.1, g.2.1, g.2.2, by omega⟩)
          rw [e9, if_pos rfl, Option.bind_some]
          dsimp only
          rw [if_pos (by decide +kernel), Ok_some, L0]
          exact fin_no (b := g) tk hx2 p4 (hrf.tk k1) k1.2.2.2.2.1
        · rw [l4, u4] at hok
          rw [if_pos rfl] at h305
          have ev := N1.2.1 ⟨hok.1, hok.2.1, hok.2.2.1⟩
          obtain ⟨m1, m2⟩ := lt_tE p4 (show tT T len (tE T len p) ≠ 0 by omega)
          rw [ev, if_neg (by rw [n9 _ (by omega) (by omega)]; omega), bind_bind]
          generalize tV T len (tE T len p) = v1 at *
          refine ref_num (h9'.tk k1) m2 k1.2.2.1 (by omega) (by omega) (fun y2 k2 => ?_)
          dsimp only
          have N2 := nm_iff (T := T) m2 (lo := 0) (hi := 9)
          have i6 : (J (6 + v1)).toNatClampNeg = 6 + v1.toNat := by rw [jcl (by omega)]; omega
          rw [J_add, chk_J (by omega), i6]
          refine cls_num (item := 5) (td := 1) (fi := v1) (by omega) hx3 m2 (by omega) ho hd3 h303 h304 (fun _ => ⟨h305, by omega, by omega⟩) (fun hno g1 tk => ?_) (fun hok2 g4 hx4 hd4 h403 h404 h405 h406 => ?_)
          · rw [l4, u5] at hno
            have e9 := N2.1.mpr (fun g => hno ⟨g.1, g.2.1, g.2.2, by omega⟩)
            rw [e9, if_pos rfl, Option.bind_some]
            dsimp only
            rw [if_pos (by decide +kernel), Ok_some, L0]
            refine fin_no (b := g) tk hx3 m2 (((hrf.tk k1).tk k2).st _ _) ?_
            rw [sgn (by omega)]; exact k2.2.2.2.2.1
          · rw [l4, u5] at hok2
            rw [if_neg (by omega)] at h405
            have h406 := h406 rfl
            have ev2 := N2.2.1 ⟨hok2.1, hok2.2.1, hok2.2.2.1⟩
            obtain ⟨m3, m4⟩ := lt_tE m2 (show tT T len (tE T len (tE T len p)) ≠ 0 by omega)
            rw [ev2, if_neg (by rw [n9 _ (by omega) (by omega)]; omega), Option.bind_some]
            dsimp only
            rw [if_neg (by decide +kernel)]
            generalize tV T len (tE T len (tE T len p)) = v2 at *
            refine fin_item (item := 5) (W := W) (H := H) (te := te) (wt := fun i => if i = v1.toNat then v2 else wt i) (mq := mq) (qa := qa) (qb := qb) (it := it) (tn := tn) (by omega) hx4 m4 (by omega) h403 h404 ⟨ho.1, ho.2.1, ho.2.2.1, fun i hi => ?_, ho.2.2.2.2.1, ho.2.2.2.2.2.1, ho.2.2.2.2.2.2.1, fun q => by omega⟩ (by omega) (fun t3 g1 tk => ?_) (((h9'.tk k1).tk k2).s3 _ _) (by rw [sgn (by omega)]; exact k2.2.2.1) (((hrf.tk k1).tk k2).st _ _) ?_ (ih (i + 1 + 1 + 1) _ (by omega) (by omega) m4)
            · dsimp only
              split
              · omega
              · exact ho.2.2.2.1 i hi
            · have b05 : g1 0 5 = J v1 := by rw [tk.1 0 (by omega)]; exact h405
              have b06 : g1 0 6 = J v2 := by rw [tk.1 0 (by omega)]; exact h406
              obtain ⟨b1, b2, b3, b4, b5, b6, b7, b8⟩ := tk.dr hd4
              have iv : (J v1).toNatClampNeg = v1.toNat := jcl (by omega)
              have hsw : f_X1_setWorth (sg_off g1 3) (J v1) (J v2) = some (sg_st (sg_off g1 3) 1 v1.toNat (J v2)) := by
                unfold f_X1_setWorth
                rw [if_neg (by rw [L0, jlt (by omega) (by omega)]; omega), if_neg (by rw [L16, jle (by omega) (by omega)]; omega), chk_J (by omega), iv]
              have hctx := tk.tx hx4
              refine ⟨sg_sp g1 3 5 (sg_st (sg_off g1 3) 1 v1.toNat (J v2)), ?_, ?_, ?_, ?_, ?_, fun i hi => ?_, ?_, fun i hi => ?_, ?_, ?_⟩
              · unfold f_X6_takesEnd
                rw [tk.2.2.2.2.1, t3, if_pos (by decide +kernel), tk.1 0 (by omega), h403, if_neg (by decide +kernel), if_pos (by decide +kernel), ← tk.1 0 (by omega), b05, b06, hsw, Option.bind_some]
              · obtain ⟨⟨a1, a2, a3⟩, a4⟩ := hctx
                refine ⟨⟨a1, by rw [sof, spn (by omega)]; exact a2, fun j hj => by rw [sof, spn (by omega)]; exact a3 j hj⟩, by rw [spn (by omega)]; exact a4⟩
              · rw [sps (by omega), sgn (by omega)]; exact b1
              · rw [sps (by omega), sgn (by omega)]; exact b2
              · rw [sps (by omega), sgn (by omega)]; exact b3
              · rw [sps (by omega), sgs]
                dsimp only
                by_cases e : i = v1.toNat
                · rw [if_pos e, if_pos e]
                · rw [if_neg e, if_neg e]; exact b4 i hi
              · rw [sps (by omega), sgn (by omega)]; exact b5
              · rw [sps (by omega), sgn (by omega), sps (by omega), sgn (by omega)]; exact b6 i hi
              · rw [spn (by omega)]; exact b7
              · rw [spn (by omega)]; exact b8
            · have e3 : y2 3 = μ 3 := by rw [k2.1 3 (by omega), k1.1 3 (by omega)]
              have mq6 := ho.2.2.2.2.1
              refine ⟨?_, ?_, ?_, ?_, ?_, ?_, fun i hi => ?_, fun i hi => ?_⟩
              · rw [sgs, if_neg (by omega), e3]; exact r0
              · rw [sgs, if_neg (by omega), e3]; exact r1
              · rw [sgs, if_neg (by omega), e3]; exact r2
              · rw [sgs, if_neg (by omega), e3]; exact r3
              · rw [sgs, if_neg (by omega), e3]; exact r4
              · rw [sgs, if_neg (by omega), e3]; exact r5
              · rw [sgs]
                dsimp only
                by_cases e : i = v1.toNat
                · rw [if_pos (by omega), if_pos e]
                · rw [if_neg (by omega), if_neg e, e3]; exact r6 i hi
              · rw [sgs, if_neg (by omega), sgs, if_neg (by omega), e3]; exact r7 i hi
      · rw [q] at h203
        rw [q, show vbN 6 = 2 from rfl, ri_quarrel r0 r1 r3 ho.2.2.2.2.1, if_neg (by omega), bind_bind]
        have l4 : loN 6 = 0 := rfl
        have u4 : ∀ td, hiN W H 6 td = ((W * H : Nat) : Int) - 1 := fun _ => rfl
        refine ref_num h9' p4 h11 (by omega) (by omega) (fun y1 k1 => ?_)
        dsimp only
        have N1 := nm_iff (T := T) p4 (lo := 0) (hi := ((W * H : Nat) : Int) - 1)
        refine cls_num (item := 6) (td := 0) (fi := 0) (by omega) hx2 p4 (by omega) ho hd2 h203 h204 (fun q => by omega) (fun hno g1 tk => ?_) (fun hok g3 hx3 hd3 h303 h304 h305 _ => ?_)
        · rw [l4, u4] at hno
          have e9 := N1.1.mpr (fun g => hno ⟨g.1, g.2.1, g.2.2, by omega⟩)
          rw [e9, if_pos rfl, Option.bind_some]
          dsimp only
          rw [if_pos (by decide +kernel), Ok_some, L0]
          exact fin_no (b := g) tk hx2 p4 (hrf.tk k1) k1.2.2.2.2.1
        · rw [l4, u4] at hok
          rw [if_pos rfl] at h305
          have ev := N1.2.1 ⟨hok.1, hok.2.1, hok.2.2.1⟩
          obtain ⟨m1, m2⟩ := lt_tE p4 (show tT T len (tE T len p) ≠ 0 by omega)
          have e31 : y1 3 = μ 3 := k1.1 3 (by omega)
          rw [ev, if_neg (by rw [n9 _ (by omega) (by omega)]; omega), dc_eq (W := W) (H := H) (by rw [e31]; exact r0) (by rw [e31]; exact r1), Option.bind_some, J_sub, bind_bind]
          generalize tV T len (tE T len p) = v1 at *
          refine ref_num (h9'.tk k1) m2 k1.2.2.1 (by omega) (by omega) (fun y2 k2 => ?_)
          dsimp only
          have N2 := nm_iff (T := T) m2 (lo := 0) (hi := ((W * H : Nat) : Int) - 1)
          refine cls_num (item := 6) (td := 1) (fi := v1) (by omega) hx3 m2 (by omega) ho hd3 h303 h304 (fun _ => ⟨h305, by omega, by omega⟩) (fun hno g1 tk => ?_) (fun hok2 g4 hx4 hd4 h403 h404 h405 h406 => ?_)
          · rw [l4, u4] at hno
            have done : Ok (some ((0 : Int32), y2)) (fun z2 => FIN T len μ0 (J 0, g1) z2) := by
              rw [Ok_some, L0]
              exact fin_no (b := g) tk hx3 m2 ((hrf.tk k1).tk k2) k2.2.2.2.2.1
            by_cases g9 : tT T len (tE T len (tE T len p)) = 2 ∧ 0 ≤ tV T len (tE T len (tE T len p)) ∧ tV T len (tE T len (tE T len p)) ≤ ((W * H : Nat) : Int) - 1
            · have ev2 := N2.2.1 g9
              have evv : tV T len (tE T len (tE T len p)) = v1 := by
                by_cases h : tV T len (tE T len (tE T len p)) = v1
                · exact h
                · exact absurd ⟨g9.1, g9.2.1, g9.2.2, fun g => h g.2.2⟩ hno
              rw [ev2, evv, if_neg (by rw [n9 _ (by omega) (by omega)]; omega), if_pos rfl, Option.bind_some]
              dsimp only
              rw [if_pos (by decide +kernel)]
              exact done
            · have e9 := N2.1.mpr g9
              rw [e9, if_pos rfl, Option.bind_some]
              dsimp only
              rw [if_pos (by decide +kernel)]
              exact done
          · rw [l4, u4] at hok2
            rw [if_neg (by omega)] at h405
            have h406 := h406 rfl
            have ev2 := N2.2.1 ⟨hok2.1, hok2.2.1, hok2.2.2.1⟩
            obtain ⟨m3, m4⟩ := lt_tE m2 (show tT T len (tE T len (tE T len p)) ≠ 0 by omega)
            have e3 : y2 3 = μ 3 := by rw [k2.1 3 (by omega), e31]
            have y33 : (sg_st (sg_st y2 3 (22 + mq) (J v1)) 3 (28 + mq) (J (tV T len (tE T len (tE T len p))))) 3 3 = J mq := by rw [sgs, if_neg (by omega), sgs, if_neg (by omega), e3]; exact r3
            rw [ev2, if_neg (by rw [n9 _ (by omega) (by omega)]; omega), if_neg (by rw [jeq (by omega) (by omega)]; omega), Option.bind_some]
            dsimp only
            rw [if_neg (by decide +kernel), y33, J_add]
            generalize tV T len (tE T len (tE T len p)) = v2 at *
            have c1 : ((v1.toNat : Nat) : Int) = v1 := by omega
            have c2 : ((v2.toNat : Nat) : Int) = v2 := by omega
            refine fin_item (item := 6) (W := W) (H := H) (te := te) (wt := wt) (mq := mq + 1) (qa := fun i => if i = mq then v1.toNat else qa i) (qb := fun i => if i = mq then v2.toNat else qb i) (it := it) (tn := tn) (by omega) hx4 m4 (by omega) h403 h404 ⟨ho.1, ho.2.1, ho.2.2.1, ho.2.2.2.1, by omega, fun i hi => ?_, ho.2.2.2.2.2.2.1, fun q => by omega⟩ (by omega) (fun t3 g1 tk => ?_) (((((h9'.tk k1).tk k2).s3 _ _).s3 _ _).s3 _ _) (by rw [sgn (by omega), sgn (by omega), sgn (by omega)]; exact k2.2.2.1) (((((hrf.tk k1).tk k2).st _ _).st _ _).st _ _) ?_ (ih (i + 1 + 1 + 1) _ (by omega) (by omega) m4)
            · dsimp only
              by_cases e : i = mq
              · rw [if_pos e, if_pos e]; omega
              · rw [if_neg e, if_neg e]; exact ho.2.2.2.2.2.1 i (by omega)
            · have b05 : g1 0 5 = J v1 := by rw [tk.1 0 (by omega)]; exact h405
              have b06 : g1 0 6 = J v2 := by rw [tk.1 0 (by omega)]; exact h406
              obtain ⟨b1, b2, b3, b4, b5, b6, b7, b8⟩ := tk.dr hd4
              have im : (J (mq : Int)).toNatClampNeg = mq := by rw [jcl (by omega)]; omega
              have hadd : f_X4_add (sg_off g1 5) (J v1) (J v2) = some (sg_st (sg_st (sg_st (sg_off g1 5) 1 mq (J v1)) 2 mq (J v2)) 0 0 (J ((mq + 1 : Nat) : Int))) := by
                have h00 : (sg_off g1 5) 0 0 = J mq := b5
                unfold f_X4_add
                rw [full_eq h00 (by omega), Option.bind_some, if_pos mq6, if_pos (by decide +kernel)]
                simp (disch := omega) only [sgn, h00, chk_J, im, L1, J_add]
                rfl
              have hctx := tk.tx hx4
              refine ⟨sg_sp g1 5 3 (sg_st (sg_st (sg_st (sg_off g1 5) 1 mq (J v1)) 2 mq (J v2)) 0 0 (J ((mq + 1 : Nat) : Int))), ?_, ?_, ?_, ?_, ?_, fun i hi => ?_, ?_, fun i hi => ?_, ?_, ?_⟩
              · unfold f_X6_takesEnd
                rw [tk.2.2.2.2.1, t3, if_pos (by decide +kernel), tk.1 0 (by omega), h403, if_neg (by decide +kernel), if_neg (by decide +kernel), if_pos (by decide +kernel), ← tk.1 0 (by omega), b05, b06, hadd, Option.bind_some]
              · obtain ⟨⟨a1, a2, a3⟩, a4⟩ := hctx
                refine ⟨⟨a1, by rw [sof, spn (by omega)]; exact a2, fun j hj => by rw [sof, spn (by omega)]; exact a3 j hj⟩, by rw [spn (by omega)]; exact a4⟩
              · rw [spn (by omega)]; exact b1
              · rw [spn (by omega)]; exact b2
              · rw [spn (by omega)]; exact b3
              · rw [spn (by omega)]; exact b4 i hi
              · rw [sps (by omega), sgs, if_pos rfl]
              · rw [sps (by omega), sgn (by omega), sgn (by omega), sgs, sps (by omega), sgn (by omega), sgs]
                dsimp only
                by_cases e : i = mq
                · rw [if_pos e, if_pos e, if_pos e, if_pos e, c1, c2]; exact ⟨rfl, rfl⟩
                · rw [if_neg e, if_neg e, if_neg e, if_neg e, sgn (by omega)]; exact b6 i (by omega)
              · rw [spn (by omega)]; exact b7
              · rw [spn (by omega)]; exact b8
            · refine ⟨?_, ?_, ?_, ?_, ?_, ?_, fun i hi => ?_, fun i hi => ?_⟩
              · rw [sgs, if_neg (by omega), sgs, if_neg (by omega), sgs, if_neg (by omega), e3]; exact r0
              · rw [sgs, if_neg (by omega), sgs, if_neg (by omega), sgs, if_neg (by omega), e3]; exact r1
              · rw [sgs, if_neg (by omega), sgs, if_neg (by omega), sgs, if_neg (by omega), e3]; exact r2
              · rw [sgs, if_pos rfl]; rfl
              · rw [sgs, if_neg (by omega), sgs, if_neg (by omega), sgs, if_neg (by omega), e3]; exact r4
              · rw [sgs, if_neg (by omega), sgs, if_neg (by omega), sgs, if_neg (by omega), e3]; exact r5
              · rw [sgs, if_neg (by omega), sgs, if_neg (by omega), sgs, if_neg (by omega), e3]; exact r6 i hi
              · dsimp only
                by_cases e : i = mq
                · rw [if_pos e, if_pos e, c1, c2, e]
                  refine ⟨?_, ?_⟩
                  · rw [sgs, if_neg (by omega), sgs, if_neg (by omega), sgs, if_pos rfl]
                  · rw [sgs, if_neg (by omega), sgs, if_pos rfl]
                · rw [if_neg e, if_neg e]
                  refine ⟨?_, ?_⟩
                  · rw [sgs, if_neg (by omega), sgs, if_neg (by omega), sgs, if_neg (by omega), e3]; exact (r7 i (by omega)).1
                  · rw [sgs, if_neg (by omega), sgs, if_neg (by omega), sgs, if_neg (by omega), e3]; exact (r7 i (by omega)).2
      · rw [q] at h203
        rw [q, show vbN 7 = 3 from rfl, ri_tear r5 ho.2.2.2.2.2.2.1, if_pos tn0, bind_bind]
        have l4 : loN 7 = 1 := rfl
        have u4 : hiN W H 7 0 = 9 := rfl
        refine ref_num h9' p4 h11 (by omega) (by omega) (fun y1 k1 => ?_)
        dsimp only
        have N1 := nm_iff (T := T) p4 (lo := 1) (hi := 9)
        refine cls_num (item := 7) (td := 0) (fi := 0) (by omega) hx2 p4 (by omega) ho hd2 h203 h204 (fun q => by omega) (fun hno g1 tk => ?_) (fun hok g3 hx3 hd3 h303 h304 h305 _ => ?_)
        · rw [l4, u4] at hno
          have e9 := N1.1.mpr (fun g => hno ⟨g.1, g.2.1, g.2.2, by omega⟩)
          rw [e9, if_pos rfl, Option.bind_some]
          dsimp only
          rw [if_pos (by decide +kernel), Ok_some, L0]
          refine fin_no (b := g) tk hx2 p4 (((hrf.tk k1).st _ _).st _ _) ?_
          rw [sgn (by omega), sgn (by omega)]; exact k1.2.2.2.2.1
        · rw [l4, u4] at hok
          rw [if_pos rfl] at h305
          have ev := N1.2.1 ⟨hok.1, hok.2.1, hok.2.2.1⟩
          obtain ⟨m1, m2⟩ := lt_tE p4 (show tT T len (tE T len p) ≠ 0 by omega)
          rw [ev, if_neg (by rw [n9 _ (by omega) (by omega)]; omega), Option.bind_some]
          dsimp only
          rw [if_neg (by decide +kernel)]
          generalize tV T len (tE T len p) = v1 at *
          refine fin_item (item := 7) (W := W) (H := H) (te := v1) (wt := wt) (mq := mq) (qa := qa) (qb := qb) (it := it) (tn := 1) (by omega) hx3 m2 (by omega) h303 h304 ⟨ho.1, ho.2.1, by omega, ho.2.2.2.1, ho.2.2.2.2.1, ho.2.2.2.2.2.1, by omega, fun q => by omega⟩ (by omega) (fun t3 g1 tk => ?_) (((h9'.tk k1).s3 _ _).s3 _ _) (by rw [sgn (by omega), sgn (by omega)]; exact k1.2.2.1) (((hrf.tk k1).st _ _).st _ _) ?_ (ih (i + 1 + 1) _ (by omega) (by omega) m2)
          · have b05 : g1 0 5 = J v1 := by rw [tk.1 0 (by omega)]; exact h305
            obtain ⟨b1, b2, b3, b4, b5, b6, b7, b8⟩ := tk.dr hd3
            refine ⟨sg_st (sg_st g1 3 2 (J v1)) 0 7 (J 1), ?_, ((tk.tx hx3).s0 (k := 3) ⟨by omega, by omega⟩ _ _).s0 (k := 0) ⟨by omega, by omega⟩ _ _, ?_, ?_, ?_, fun i hi => ?_, ?_, fun i hi => ?_, ?_, ?_⟩
            · unfold f_X6_takesEnd
              rw [tk.2.2.2.2.1, t3, if_pos (by decide +kernel), tk.1 0 (by omega), h303, if_neg (by decide +kernel), if_neg (by decide +kernel), if_neg (by decide +kernel), ← tk.1 0 (by omega), b05, L1]
            · rw [sgn (by omega), sgs, if_neg (by omega)]; exact b1
            · rw [sgn (by omega), sgs, if_neg (by omega)]; exact b2
            · rw [sgn (by omega), sgs, if_pos rfl]
            · rw [sgn (by omega), sgn (by omega)]; exact b4 i hi
            · rw [sgn (by omega), sgn (by omega)]; exact b5
            · rw [sgn (by omega), sgn (by omega), sgn (by omega), sgn (by omega)]; exact b6 i hi
            · rw [sgs, if_neg (by omega), sgn (by omega)]; exact b7
            · rw [sgs, if_pos rfl]; rfl
          · have e3 : y1 3 = μ 3 := k1.1 3 (by omega)
            have mq6 := ho.2.2.2.2.1
            refine ⟨?_, ?_, ?_, ?_, ?_, ?_, fun i hi => ?_, fun i hi => ?_⟩
            · rw [sgs, if_neg (by omega), sgs, if_neg (by omega), e3]; exact r0
            · rw [sgs, if_neg (by omega), sgs, if_neg (by omega), e3]; exact r1
            · rw [sgs, if_pos rfl]
            · rw [sgs, if_neg (by omega), sgs, if_neg (by omega), e3]; exact r3
            · rw [sgs, if_neg (by omega), sgs, if_neg (by omega), e3]; exact r4
            · rw [sgs, if_neg (by omega), sgs, if_pos rfl]; rfl
            · rw [sgs, if_neg (by omega), sgs, if_neg (by omega), e3]; exact r6 i hi
            · rw [sgs, if_neg (by omega), sgs, if_neg (by omega), sgs, if_neg (by omega), sgs, if_neg (by omega), e3]; exact r7 i hi
