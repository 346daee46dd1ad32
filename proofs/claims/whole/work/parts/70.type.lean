/-! ===== the steps: a text typed ===== -/
theorem byt {v : Int64} {U : UInt64} {D : Int64} {s : Nat} (hU : U.toNat % 64 = s) (hD : (D.toBitVec.smod 64).toNat = s) (hs : s + 8 ≤ 64) : ((v.toUInt64 >>> U).toInt64).toInt32 &&& 255 = ((v >>> D) &&& 255).toInt32 := by
  have e1 : (v.toUInt64 >>> U).toInt64.toBitVec = v.toBitVec >>> s := by
    apply BitVec.eq_of_toNat_eq
    show (v.toUInt64 >>> U).toNat = _
    rw [UInt64.toNat_shiftRight, hU, BitVec.toNat_ushiftRight]
    rfl
  have e2 : (v >>> D).toBitVec = v.toBitVec.sshiftRight s := by
    show BitVec.sshiftRight' _ _ = _
    unfold BitVec.sshiftRight'
    rw [hD]
  have m32 : ∀ j, j < 32 → (255 : Int32).toBitVec.getLsbD j = decide (j < 8) := by decide
  have m64 : ∀ j, j < 64 → (255 : Int64).toBitVec.getLsbD j = decide (j < 8) := by decide
  apply Int32.toBitVec_inj.mp
  apply BitVec.eq_of_getLsbD_eq
  intro j hj
  rw [Int32.toBitVec_and, Int64.toBitVec_toInt32, Int64.toBitVec_toInt32, Int64.toBitVec_and, e1, e2, BitVec.getLsbD_and, m32 j hj, BitVec.getLsbD_signExtend, BitVec.getLsbD_signExtend, if_pos (by omega), if_pos (by omega), BitVec.getLsbD_and, m64 j (by omega), BitVec.getLsbD_ushiftRight, BitVec.getLsbD_sshiftRight]
  by_cases q : j < 8
  · rw [if_pos (by omega)]
    have : ¬ 64 ≤ j := by omega
    simp [hj, q, this]
  · simp [q]
theorem and255 (x : Int32) : ∃ b : Int, x &&& 255 = J b ∧ 0 ≤ b ∧ b ≤ 255 := by
  refine ⟨((x &&& 255).toBitVec.toNat : Int), ?_, by omega, ?_⟩
  · apply Int32.toBitVec_inj.mp
    show (x &&& 255).toBitVec = BitVec.ofInt 32 _
    rw [BitVec.ofInt_natCast, BitVec.ofNat_toNat, BitVec.setWidth_eq]
  · rw [Int32.toBitVec_and, BitVec.toNat_and]
    have : (255 : Int32).toBitVec.toNat = 255 := by decide
    rw [this]
    have := Nat.and_le_right (n := x.toBitVec.toNat) (m := 255)
    omega
/-- the byte of a place -/
def bv (v : Int64) (i : Nat) : Int := ((((v : Int64).toUInt64 >>> (((8 * (J i)) : Int32).toInt64.toUInt64 &&& Int64.toUInt64 63)).toInt64 : Int64).toInt32 &&& 255).toInt
theorem bv8 (v : Int64) {i : Nat} (hi : i < 8) : ((((v : Int64).toUInt64 >>> (((8 * (J i)) : Int32).toInt64.toUInt64 &&& Int64.toUInt64 63)).toInt64 : Int64).toInt32 &&& 255) = J (bv v i) ∧ (((((v : Int64) >>> (((8 * (J i)) : Int32).toInt64 &&& 63)) &&& 255) : Int64).toInt32) = J (bv v i) ∧ 0 ≤ bv v i ∧ bv v i ≤ 255 := by
  have h0 : ((((v : Int64).toUInt64 >>> (((8 * (J i)) : Int32).toInt64.toUInt64 &&& Int64.toUInt64 63)).toInt64 : Int64).toInt32 &&& 255) = J (bv v i) := (Int32.ofInt_toInt _).symm
  have u8 : ∀ i : Fin 8, (((8 * (J (i.1 : Int))) : Int32).toInt64.toUInt64 &&& Int64.toUInt64 63).toNat % 64 = 8 * i.1 := by decide +kernel
  have d8 : ∀ i : Fin 8, ((((8 * (J (i.1 : Int))) : Int32).toInt64 &&& 63).toBitVec.smod 64).toNat = 8 * i.1 := by decide +kernel
  refine ⟨h0, ?_, ?_⟩
  · rw [← byt (u8 ⟨i, hi⟩) (d8 ⟨i, hi⟩) (by show 8 * i + 8 ≤ 64; omega)]
    exact h0
  · obtain ⟨b, e, b1, b2⟩ := and255 (((v : Int64).toUInt64 >>> (((8 * (J i)) : Int32).toInt64.toUInt64 &&& Int64.toUInt64 63)).toInt64 : Int64).toInt32
    have : bv v i = b := by
      unfold bv
      rw [e, jI (by omega)]
    rw [this]; exact ⟨b1, b2⟩
theorem st_type : LS_type Rel := by
  intro σ tr μ tm h v p2
  have h' := h
  obtain ⟨e, T, len, W, H, te, wt, mq, qa, qb, it, tn, ms, sa, sb, m, ca, cb, nf, cd, dn, a, b, c, d⟩ := h
  obtain ⟨x, rfl, hx⟩ := j_of p2
  have hn := a.n16
  have hl := a.1.1
  have l8 : σ 2 0 = J len := a.1.2.1
  have l9 := a.2.1.2.1
  have i9 : f_X9_in (J x) 1 8 = some (J (if 1 ≤ x ∧ x ≤ 8 then 1 else 0)) := by rw [L1, L8]; exact in_eq hx (by omega) (by omega)
  have c1 : (J x < 1) ↔ x < 1 := by rw [L1, jlt hx (by omega)]
  have c8 : (J x ≤ (8 : Int32)) ↔ x ≤ 8 := by rw [L8, jle hx (by omega)]
  by_cases q : 1 ≤ x ∧ x ≤ 8
  · obtain ⟨n, rfl⟩ := Int.eq_ofNat_of_zero_le (show 0 ≤ x by omega)
    have sum : J (len : Int) + J (n : Int) = J (((len + n : Nat)) : Int) := by rw [J_add]; rfl
    have c200 : (J (((len + n : Nat)) : Int) ≤ (200 : Int32)) ↔ len + n ≤ 200 := by rw [L200, jle (by omega) (by omega)]; omega
    by_cases q2 : len + n ≤ 200
    · have k8 : Ok (f_X8_type σ tr v (J n)) (fun z => z.1 = J ((len + n : Nat) : Int) ∧ HT7 (fun j => if j < len then T j else bv v (n - 1 - (j - len))) (len + n) (sg_off z.2 2) ∧ ∀ q, 9 ≤ q → z.2 q = σ q) := by
        unfold f_X8_type
        rw [if_neg (fun g => by have := c1.mp g; omega), if_pos (c8.mpr (by omega)), l8, sum, if_pos (c200.mpr q2), L1, J_sub]
        refine Ok_lc2 (fun r y g => ∃ k : Nat, k ≤ n ∧ r = n - k ∧ y = J ((n : Int) - 1 - k) ∧ HT7 (fun j => if j < len then T j else bv v (n - 1 - (j - len))) (len + k) (sg_off g 2) ∧ ∀ q, 9 ≤ q → g q = σ q) (fun r y g κ hi hκ => ?_) 1000 n _ _ (by omega) ⟨0, by omega, rfl, congrArg J (by omega), ⟨by omega, l8, fun j hj => by dsimp only; rw [if_pos (show j < len by omega)]; exact a.1.2.2 j (by omega)⟩, fun _ _ => rfl⟩
        obtain ⟨k, hk, hr, hy, ht, hq⟩ := hi
        subst hy
        unfold s_X8_type_36
        have lg : g 2 0 = J ((len + k : Nat) : Int) := ht.2.1
        by_cases g0 : k = n
        · subst g0
          rw [if_pos (by rw [L0, jlt (by omega) (by omega)]; omega)]
          unfold j_X8_type_1
          rw [Ok_some]
          exact ⟨lg, ht, hq⟩
        · rw [if_neg (by rw [L0, jlt (by omega) (by omega)]; omega)]
          have ei : ((n : Int) - 1 - k) = ((n - 1 - k : Nat) : Int) := by omega
          rw [ei]
          obtain ⟨b1, b2, b3, b4⟩ := bv8 v (i := n - 1 - k) (by omega)
          rw [b1]
          have il : (J ((len + k : Nat) : Int)).toNatClampNeg = len + k := by rw [jcl (by omega)]; omega
          have h00 : (sg_off g 2) 0 0 = J ((len + k : Nat) : Int) := lg
          have ap : f_X7_append (sg_off g 2) (J (bv v (n - 1 - k))) = some (sg_st (sg_st (sg_off g 2) 1 (len + k) (J (bv v (n - 1 - k)))) 0 0 (J ((len + (k + 1) : Nat) : Int))) := by
            unfold f_X7_append
            rw [h00, if_neg (by rw [L200, jle (by omega) (by omega)]; omega), chk_J (by omega), il, sgn (by omega), h00, L1, J_add]
            rfl
          rw [ap, Option.bind_some, L1, J_neg, J_add]
          refine hκ (n - (k + 1)) _ _ (by omega) ⟨k + 1, by omega, rfl, congrArg J (by omega), ⟨by omega, ?_, fun j hj => ?_⟩, fun q hq' => ?_⟩
          · rw [sof, sps (by omega), sgs, if_pos rfl]
          · rw [sof, sps (by omega), sgn (by omega), sgs]
            by_cases ej : j = len + k
            · rw [if_pos ej]
              dsimp only
              rw [if_neg (by omega), ej, show n - 1 - (len + k - len) = n - 1 - k by omega]
              exact ⟨rfl, b3, b4⟩
            · rw [if_neg ej]; exact ht.2.2 j (by omega)
          · funext i; rw [spn (by omega), hq q hq']
      have k9 : Ok (f_X9_type μ tm v (J n)) (fun z => z.1 = J ((len + n : Nat) : Int) ∧ H9T (fun j => if j < len then T j else bv v (n - 1 - (j - len))) (len + n) z.2 ∧ (∀ q, 2 ≤ q → z.2 q = μ q) ∧ ∀ i, i ≠ 2 → z.2 0 i = μ 0 i) := by
        unfold f_X9_type
        rw [i9, if_pos q, Option.bind_some, if_neg (by decide +kernel), l9, sum, if_pos (c200.mpr q2), L1, J_sub]
        refine Ok_lc2 (fun r y g => ∃ k : Nat, k ≤ n ∧ r = n - k ∧ y = J ((n : Int) - 1 - k) ∧ H9T (fun j => if j < len then T j else bv v (n - 1 - (j - len))) (len + k) g ∧ (∀ q, 2 ≤ q → g q = μ q) ∧ ∀ i, i ≠ 2 → g 0 i = μ 0 i) (fun r y g κ hi hκ => ?_) 1000 n _ _ (by omega) ⟨0, by omega, rfl, congrArg J (by omega), ⟨by omega, l9, fun j hj => by dsimp only; rw [if_pos (show j < len by omega)]; exact a.2.1.2.2 j (by omega)⟩, fun _ _ => rfl, fun _ _ => rfl⟩
        obtain ⟨k, hk, hr, hy, ht, hq, hq0⟩ := hi
        subst hy
        unfold s_X9_type_32
        have lg : g 0 2 = J ((len + k : Nat) : Int) := ht.2.1
        by_cases g0 : k = n
        · subst g0
          rw [if_pos (by rw [L0, jlt (by omega) (by omega)]; omega)]
          unfold j_X9_type_1
          rw [Ok_some]
          exact ⟨lg, ht, hq, hq0⟩
        · rw [if_neg (by rw [L0, jlt (by omega) (by omega)]; omega)]
          have ei : ((n : Int) - 1 - k) = ((n - 1 - k : Nat) : Int) := by omega
          rw [ei]
          obtain ⟨b1, b2, b3, b4⟩ := bv8 v (i := n - 1 - k) (by omega)
          rw [b2]
          have il : (J ((len + k : Nat) : Int)).toNatClampNeg = len + k := by rw [jcl (by omega)]; omega
          rw [lg, chk_J (by omega), il, sgn (by omega), lg, L1, J_neg, J_add, J_add]
          refine hκ (n - (k + 1)) _ _ (by omega) ⟨k + 1, by omega, rfl, congrArg J (by omega), ⟨by omega, ?_, fun j hj => ?_⟩, fun q hq' => ?_, fun i hi => ?_⟩
          · rw [sgs, if_pos rfl]; rfl
          · rw [sgn (by omega), sgs]
            by_cases ej : j = len + k
            · rw [if_pos ej]
              dsimp only
              rw [if_neg (by omega), ej, show n - 1 - (len + k - len) = n - 1 - k by omega]
              exact ⟨rfl, b3, b4⟩
            · rw [if_neg ej]; exact ht.2.2 j (by omega)
          · funext i; rw [sgn (by omega), sgn (by omega), hq q hq']
          · rw [sgs, if_neg hi, sgn (by omega), hq0 i hi]
      obtain ⟨z, z0, z1, z2, z3⟩ := k8
      obtain ⟨y, y0, y1, y2, y3, y4⟩ := k9
      refine ⟨z, y, z0, y0, by rw [z1, y1], e, _, _, W, H, te, wt, mq, qa, qb, it, tn, ms, sa, sb, m, ca, cb, nf, cd, dn, a.text z2 y2 (fun q q1 _ => z3 q q1) (y4 10 (by omega)) (fun q q1 _ _ => y3 q q1), ?_, ?_, ?_⟩
      · exact b.cg (fun q q1 q2 => z3 q (by omega)) (y3 4 (by omega)) hn
      · exact c.cg (by omega) (fun q q1 q2 => z3 q (by omega)) (y3 5 (by omega)) (y3 6 (by omega)) hn
      · exact d.cg (by omega) (fun q q1 q2 => z3 q (by omega)) (y3 5 (by omega)) (y3 6 (by omega)) hn
    · refine ⟨(-3, σ), (-3, μ), ?_, ?_, rfl, h'⟩
      · unfold f_X8_type
        rw [if_neg (fun g => by have := c1.mp g; omega), if_pos (c8.mpr (by omega)), l8, sum, if_neg (fun g => q2 (c200.mp g))]
      · unfold f_X9_type
        rw [i9, if_pos q, Option.bind_some, if_neg (by decide +kernel), l9, sum, if_neg (fun g => q2 (c200.mp g))]
  · refine ⟨(-1, σ), (-1, μ), ?_, ?_, rfl, h'⟩
    · unfold f_X8_type
      by_cases q1 : x < 1
      · rw [if_pos (c1.mpr q1)]
      · rw [if_neg (fun g => q1 (c1.mp g)), if_neg (fun g => by have := c8.mp g; omega)]
    · unfold f_X9_type
      rw [i9, if_neg q, Option.bind_some, if_pos (by decide +kernel)]
