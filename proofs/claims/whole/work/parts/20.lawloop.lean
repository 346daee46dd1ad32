set_option maxHeartbeats 40000000 in
set_option maxRecDepth 100000 in
/-- the law's loop: at its head, with k ints read, the relation holds -/
theorem law_loop {p : Program} {l : Launch} {e : Env} {s : State} {m : MethodId} {below : List Frame} {meth : Method} {c : Code} {E : Ev} {b L : Nat} {xs : Nat → Int32} {Rel : Sg → Int64 → Sg → Int64 → Prop} (hL : L ≤ 2560) (hSt : LawSteps Rel) (C0 : lw_At p s m meth c b L xs) (X : Cx p s m #[Value.ref b] meth c code 4 RL E (fun q : Nat => s.heap.size ≤ q)) :
    ∀ (n k : Nat) (x3 : Int32), k ≤ L → L + 5 ≤ k + n → x3 = nI k → ∀ (a d : Nat → Nat) (σ : Sg) (tr : Int64) (μ : Sg) (tm : Int64), Rel σ tr μ tm → ∀ (H : Heap) (locs : List Loc), va_P E.1 vwCl (wX8 E a σ tr ++ wX9 E d μ tm) H → va_D (fun q : Nat => s.heap.size ≤ q) (wX8 E a σ tr ++ wX9 E d μ tm) → va_S (fun q : Nat => s.heap.size ≤ q) s.heap H locs → ∀ (ls : Array Slot), lv_has ls 4 [(0, .ref b), (1, .ref (a 0)), (2, .ref (d 0)), (3, .int x3)] → W p l e room_1 s m #[Value.ref b] below meth c H locs 78 1670 (lw_Z below #[Value.ref b] s) (F0 m 18 ls []) := by
  obtain ⟨hx, hb, hr, hml, hown, hts, hX, hbl, hlocks, hgv⟩ := C0
  have hbA : ¬ (fun q : Nat => s.heap.size ≤ q) b := Nat.not_le.mpr hbl
  intro n
  induction n with
  | zero =>
    intro k x3 h1 h2
    exact absurd h2 (by omega)
  | succ n ih =>
    intro k x3 hk hn ex3 a d σ tr μ tm hR H locs hP hD hS ls hl
    refine lv_iload_n hx hb dL_law_18 rfl (lv_at hl 3 rfl) ?_
    refine lv_aload_n hx hb dL_law_19 rfl (lv_at hl 0 rfl) ?_
    refine va_slen hx hb hX hbl hbA hS dL_law_20 ?_
    refine lv_iconst (v := 5) hx hb dL_law_21 (by decide) ?_
    refine lv_isub hx hb dL_law_22 ?_
    refine lv_icmp_gt (tgt := 732) hx hb dL_law_23 (by decide) (fun c0 => ?_) (fun c0 => ?_)
    · refine lv_iconst (v := 1) hx hb dL_law_732 (by decide) ?_
      refine va_forget (fun q hq => hS.2.2 q hq) ?_
      refine W.widen (k := 600000) (n := 7302250) (Nat.le_of_ble_eq_true rfl) (Nat.le_of_ble_eq_true rfl) ?_
      exact lw_ret hx hb hr hlocks dL_law_733
    have h5 : k + 5 ≤ L := law_in hL hk (by rw [← ex3]; exact c0)
    have hv0 : vp_in x3 L := law_ix hL h5 (j := 0) (by decide) (by rw [ex3]; rfl)
    have hv1 : vp_in (x3 + 1) L := law_ix hL h5 (j := 1) (by decide) (by rw [ex3]; exact nI_add k 1)
    have hv2 : vp_in (x3 + 2) L := law_ix hL h5 (j := 2) (by decide) (by rw [ex3]; exact nI_add k 2)
    have hv3 : vp_in (x3 + 3) L := law_ix hL h5 (j := 3) (by decide) (by rw [ex3]; exact nI_add k 3)
    have hv4 : vp_in (x3 + 4) L := law_ix hL h5 (j := 4) (by decide) (by rw [ex3]; exact nI_add k 4)
    have hn5 : x3 + 5 = nI (k + 5) := by rw [ex3]; exact nI_add k 5
    refine lv_aload_n hx hb dL_law_26 rfl (lv_at hl 0 rfl) ?_
    refine lv_iload_n hx hb dL_law_27 rfl (lv_at hl 3 rfl) ?_
    refine va_sld hx hb hX hbl hbA hS hv0 dL_law_28 ?_
    refine lv_bipush (v := 31) hx hb dL_law_29 (by decide) ?_
    refine lv_iand hx hb dL_law_31 ?_
    refine lv_topi (fun sw hsw => ?_)
    by_cases c1 : sw = 0
    · refine lv_tableIn (off := 100) (tgt := 132) hx hb dL_law_32 (by rw [c1]; decide) (by rw [c1]; decide) (by rw [c1]; rfl) (by decide) ?_
      refine lv_aload_n hx hb dL_law_132 rfl (lv_at hl 1 rfl) ?_
      refine lv_aload_n hx hb dL_law_133 rfl (lv_at hl 0 rfl) ?_
      refine lv_iload_n hx hb dL_law_134 rfl (lv_at hl 3 rfl) ?_
      refine lv_iconst (v := 1) hx hb dL_law_135 (by decide) ?_
      refine lv_iadd hx hb dL_law_136 ?_
      refine va_sld hx hb hX hbl hbA hS hv1 dL_law_137 ?_
      refine lv_i2l hx hb dL_law_138 rfl ?_
      refine lv_bipush (v := 32) hx hb dL_law_139 (by decide) ?_
      refine lv_lshl hx hb dL_law_141 rfl ?_
      refine lv_aload_n hx hb dL_law_142 rfl (lv_at hl 0 rfl) ?_
      refine lv_iload_n hx hb dL_law_143 rfl (lv_at hl 3 rfl) ?_
      refine lv_iconst (v := 2) hx hb dL_law_144 (by decide) ?_
      refine lv_iadd hx hb dL_law_145 ?_
      refine va_sld hx hb hX hbl hbA hS hv2 dL_law_146 ?_
      refine lv_i2l hx hb dL_law_147 rfl ?_
      refine lv_ldc2 hx hb X.1.2.2.2.1 (X.1.2.2.2.2 _ kl_L_13) dL_law_148 ?_
      refine lv_land hx hb dL_law_151 ?_
      refine lv_lor hx hb dL_law_152 ?_
      refine lv_aload_n hx hb dL_law_153 rfl (lv_at hl 0 rfl) ?_
      refine lv_iload_n hx hb dL_law_154 rfl (lv_at hl 3 rfl) ?_
      refine lv_iconst (v := 3) hx hb dL_law_155 (by decide) ?_
      refine lv_iadd hx hb dL_law_156 ?_
      refine va_sld hx hb hX hbl hbA hS hv3 dL_law_157 ?_
      obtain ⟨o1, o2, e1, e2, er, hR⟩ := hSt.1 σ tr μ tm hR ((((xs ((x3 + 1) : Int32).toNatClampNeg) : Int32).toInt64 <<< ((32 : Int32).toInt64 &&& 63)) ||| (((xs ((x3 + 2) : Int32).toNatClampNeg) : Int32).toInt64 &&& 4294967295)) (xs ((x3 + 3) : Int32).toNatClampNeg)
      refine cV_putI X (As := [.long ((((xs ((x3 + 1) : Int32).toNatClampNeg) : Int32).toInt64 <<< ((32 : Int32).toInt64 &&& 63)) ||| (((xs ((x3 + 2) : Int32).toNatClampNeg) : Int32).toInt64 &&& 4294967295)), .int (xs ((x3 + 3) : Int32).toNatClampNeg)]) (rest := []) (c_X8_type l E a σ tr ((((xs ((x3 + 1) : Int32).toNatClampNeg) : Int32).toInt64 <<< ((32 : Int32).toInt64 &&& 63)) ||| (((xs ((x3 + 2) : Int32).toNatClampNeg) : Int32).toInt64 &&& 4294967295)) (xs ((x3 + 3) : Int32).toNatClampNeg) e1) pv_X8_type ml_L_15 ⟨rfl, rfl⟩ ⟨(Nat.le_of_ble_eq_true rfl), (Nat.le_of_ble_eq_true rfl)⟩ hP hD hS (is := List.range 65) (rngL rfl) nd65 (wX8_g0_0 _ _ _ _) rfl (putL rfl (wX8_adr _ _ _ _ _ _)) rfl hl.1 rfl (Nat.le_of_ble_eq_true rfl) dL_law_158 ⟨(Nat.le_of_ble_eq_true rfl), (Nat.le_of_ble_eq_true rfl)⟩ (fun H locs hP hD hS => ?_)
      refine lv_aload_n hx hb dL_law_161 rfl (lv_at hl 2 rfl) ?_
      refine lv_aload_n hx hb dL_law_162 rfl (lv_at hl 0 rfl) ?_
      refine lv_iload_n hx hb dL_law_163 rfl (lv_at hl 3 rfl) ?_
      refine lv_iconst (v := 1) hx hb dL_law_164 (by decide) ?_
      refine lv_iadd hx hb dL_law_165 ?_
      refine va_sld hx hb hX hbl hbA hS hv1 dL_law_166 ?_
      refine lv_i2l hx hb dL_law_167 rfl ?_
      refine lv_bipush (v := 32) hx hb dL_law_168 (by decide) ?_
      refine lv_lshl hx hb dL_law_170 rfl ?_
      refine lv_aload_n hx hb dL_law_171 rfl (lv_at hl 0 rfl) ?_
      refine lv_iload_n hx hb dL_law_172 rfl (lv_at hl 3 rfl) ?_
      refine lv_iconst (v := 2) hx hb dL_law_173 (by decide) ?_
      refine lv_iadd hx hb dL_law_174 ?_
      refine va_sld hx hb hX hbl hbA hS hv2 dL_law_175 ?_
      refine lv_i2l hx hb dL_law_176 rfl ?_
      refine lv_ldc2 hx hb X.1.2.2.2.1 (X.1.2.2.2.2 _ kl_L_13) dL_law_177 ?_
      refine lv_land hx hb dL_law_180 ?_
      refine lv_lor hx hb dL_law_181 ?_
      refine lv_aload_n hx hb dL_law_182 rfl (lv_at hl 0 rfl) ?_
      refine lv_iload_n hx hb dL_law_183 rfl (lv_at hl 3 rfl) ?_
      refine lv_iconst (v := 3) hx hb dL_law_184 (by decide) ?_
      refine lv_iadd hx hb dL_law_185 ?_
      refine va_sld hx hb hX hbl hbA hS hv3 dL_law_186 ?_
      refine cV_putI X (As := [.long ((((xs ((x3 + 1) : Int32).toNatClampNeg) : Int32).toInt64 <<< ((32 : Int32).toInt64 &&& 63)) ||| (((xs ((x3 + 2) : Int32).toNatClampNeg) : Int32).toInt64 &&& 4294967295)), .int (xs ((x3 + 3) : Int32).toNatClampNeg)]) (rest := [.int o1.1]) (c_X9_type l E d μ tm ((((xs ((x3 + 1) : Int32).toNatClampNeg) : Int32).toInt64 <<< ((32 : Int32).toInt64 &&& 63)) ||| (((xs ((x3 + 2) : Int32).toNatClampNeg) : Int32).toInt64 &&& 4294967295)) (xs ((x3 + 3) : Int32).toNatClampNeg) e2) pv_X9_type ml_L_19 ⟨rfl, rfl⟩ ⟨(Nat.le_of_ble_eq_true rfl), (Nat.le_of_ble_eq_true rfl)⟩ hP hD hS (is := List.range' 65 13) (rngR rfl rfl) nd13 (wX9_g0_0 _ _ _ _) rfl (putR rfl rfl (wX9_adr _ _ _ _ _ _)) rfl hl.1 rfl (Nat.le_of_ble_eq_true rfl) dL_law_187 ⟨(Nat.le_of_ble_eq_true rfl), (Nat.le_of_ble_eq_true rfl)⟩ (fun H locs hP hD hS => ?_)
      refine lv_icmp_eq (tgt := 726) hx hb dL_law_190 (by decide) (fun _ => ?_) (fun c => absurd er c)
      refine lv_iinc (v := x3 + 5) (lv' := [(3, .int (x3 + 5)), (0, .ref b), (1, .ref (a 0)), (2, .ref (d 0))]) hx hb dL_law_726 hl (k := 3) rfl rfl (by decide) rfl (fun ls hl => ?_)
      refine lv_goto (tgt := 18) hx hb dL_law_729 (by decide) ?_
      exact ih (k + 5) (x3 + 5) h5 (by omega) hn5 a d o1.2 tr o2.2 tm hR H locs hP hD hS ls (lv_sub hl [1, 2, 3, 0] rfl)
    by_cases c2 : sw = 1
    · refine lv_tableIn (off := 163) (tgt := 195) hx hb dL_law_32 (by rw [c2]; decide) (by rw [c2]; decide) (by rw [c2]; rfl) (by decide) ?_
      refine lv_aload_n hx hb dL_law_195 rfl (lv_at hl 1 rfl) ?_
      obtain ⟨o1, o2, e1, e2, er, hR⟩ := hSt.2.1 σ tr μ tm hR
      refine cV_putI X (As := []) (rest := []) (c_X8_clear l E a σ tr e1) pv_X8_clear ml_L_20 ⟨rfl, rfl⟩ ⟨(Nat.le_of_ble_eq_true rfl), (Nat.le_of_ble_eq_true rfl)⟩ hP hD hS (is := List.range 65) (rngL rfl) nd65 (wX8_g0_0 _ _ _ _) rfl (putL rfl (wX8_adr _ _ _ _ _ _)) rfl hl.1 rfl (Nat.le_of_ble_eq_true rfl) dL_law_196 ⟨(Nat.le_of_ble_eq_true rfl), (Nat.le_of_ble_eq_true rfl)⟩ (fun H locs hP hD hS => ?_)
      refine lv_aload_n hx hb dL_law_199 rfl (lv_at hl 2 rfl) ?_
      refine cV_putI X (As := []) (rest := [.int o1.1]) (c_X9_clear l E d μ tm e2) pv_X9_clear ml_L_24 ⟨rfl, rfl⟩ ⟨(Nat.le_of_ble_eq_true rfl), (Nat.le_of_ble_eq_true rfl)⟩ hP hD hS (is := List.range' 65 13) (rngR rfl rfl) nd13 (wX9_g0_0 _ _ _ _) rfl (putR rfl rfl (wX9_adr _ _ _ _ _ _)) rfl hl.1 rfl (Nat.le_of_ble_eq_true rfl) dL_law_200 ⟨(Nat.le_of_ble_eq_true rfl), (Nat.le_of_ble_eq_true rfl)⟩ (fun H locs hP hD hS => ?_)
      refine lv_icmp_eq (tgt := 726) hx hb dL_law_203 (by decide) (fun _ => ?_) (fun c => absurd er c)
      refine lv_iinc (v := x3 + 5) (lv' := [(3, .int (x3 + 5)), (0, .ref b), (1, .ref (a 0)), (2, .ref (d 0))]) hx hb dL_law_726 hl (k := 3) rfl rfl (by decide) rfl (fun ls hl => ?_)
      refine lv_goto (tgt := 18) hx hb dL_law_729 (by decide) ?_
      exact ih (k + 5) (x3 + 5) h5 (by omega) hn5 a d o1.2 tr o2.2 tm hR H locs hP hD hS ls (lv_sub hl [1, 2, 3, 0] rfl)
    by_cases c3 : sw = 2
    · refine lv_tableIn (off := 176) (tgt := 208) hx hb dL_law_32 (by rw [c3]; decide) (by rw [c3]; decide) (by rw [c3]; rfl) (by decide) ?_
      refine lv_aload_n hx hb dL_law_208 rfl (lv_at hl 1 rfl) ?_
      obtain ⟨o1, o2, e1, e2, er, hR⟩ := hSt.2.2.1 σ tr μ tm hR
      refine cV_putI X (As := []) (rest := []) (c_X8_map l E a σ tr e1) pv_X8_map ml_L_25 ⟨rfl, rfl⟩ ⟨(Nat.le_of_ble_eq_true rfl), (Nat.le_of_ble_eq_true rfl)⟩ hP hD hS (is := List.range 65) (rngL rfl) nd65 (wX8_g0_0 _ _ _ _) rfl (putL rfl (wX8_adr _ _ _ _ _ _)) rfl hl.1 rfl (Nat.le_of_ble_eq_true rfl) dL_law_209 ⟨(Nat.le_of_ble_eq_true rfl), (Nat.le_of_ble_eq_true rfl)⟩ (fun H locs hP hD hS => ?_)
      refine lv_aload_n hx hb dL_law_212 rfl (lv_at hl 2 rfl) ?_
      refine cV_putI X (As := []) (rest := [.int o1.1]) (c_X9_map l E d μ tm e2) pv_X9_map ml_L_28 ⟨rfl, rfl⟩ ⟨(Nat.le_of_ble_eq_true rfl), (Nat.le_of_ble_eq_true rfl)⟩ hP hD hS (is := List.range' 65 13) (rngR rfl rfl) nd13 (wX9_g0_0 _ _ _ _) rfl (putR rfl rfl (wX9_adr _ _ _ _ _ _)) rfl hl.1 rfl (Nat.le_of_ble_eq_true rfl) dL_law_213 ⟨(Nat.le_of_ble_eq_true rfl), (Nat.le_of_ble_eq_true rfl)⟩ (fun H locs hP hD hS => ?_)
      refine lv_icmp_eq (tgt := 726) hx hb dL_law_216 (by decide) (fun _ => ?_) (fun c => absurd er c)
      refine lv_iinc (v := x3 + 5) (lv' := [(3, .int (x3 + 5)), (0, .ref b), (1, .ref (a 0)), (2, .ref (d 0))]) hx hb dL_law_726 hl (k := 3) rfl rfl (by decide) rfl (fun ls hl => ?_)
      refine lv_goto (tgt := 18) hx hb dL_law_729 (by decide) ?_
      exact ih (k + 5) (x3 + 5) h5 (by omega) hn5 a d o1.2 tr o2.2 tm hR H locs hP hD hS ls (lv_sub hl [1, 2, 3, 0] rfl)
    by_cases c4 : sw = 3
    · refine lv_tableIn (off := 189) (tgt := 221) hx hb dL_law_32 (by rw [c4]; decide) (by rw [c4]; decide) (by rw [c4]; rfl) (by decide) ?_
      refine lv_aload_n hx hb dL_law_221 rfl (lv_at hl 1 rfl) ?_
      refine lv_aload_n hx hb dL_law_222 rfl (lv_at hl 0 rfl) ?_
      refine lv_iload_n hx hb dL_law_223 rfl (lv_at hl 3 rfl) ?_
      refine lv_iconst (v := 1) hx hb dL_law_224 (by decide) ?_
      refine lv_iadd hx hb dL_law_225 ?_
      refine va_sld hx hb hX hbl hbA hS hv1 dL_law_226 ?_
      refine lv_aload_n hx hb dL_law_227 rfl (lv_at hl 0 rfl) ?_
      refine lv_iload_n hx hb dL_law_228 rfl (lv_at hl 3 rfl) ?_
      refine lv_iconst (v := 2) hx hb dL_law_229 (by decide) ?_
      refine lv_iadd hx hb dL_law_230 ?_
      refine va_sld hx hb hX hbl hbA hS hv2 dL_law_231 ?_
      obtain ⟨o1, o2, e1, e2, er, hR⟩ := hSt.2.2.2.1 σ tr μ tm hR (xs ((x3 + 1) : Int32).toNatClampNeg) (xs ((x3 + 2) : Int32).toNatClampNeg)
      refine cV_roI X (As := [.int (xs ((x3 + 1) : Int32).toNatClampNeg), .int (xs ((x3 + 2) : Int32).toNatClampNeg)]) (rest := []) (c_X8_cell l E a σ tr (xs ((x3 + 1) : Int32).toNatClampNeg) (xs ((x3 + 2) : Int32).toNatClampNeg) e1) pv_X8_cell ml_L_29 ⟨rfl, rfl⟩ ⟨(Nat.le_of_ble_eq_true rfl), (Nat.le_of_ble_eq_true rfl)⟩ hP hD hS (is := List.range 65) (rngL rfl) nd65 (wX8_g0_0 _ _ _ _) rfl rfl hl.1 rfl (Nat.le_of_ble_eq_true rfl) dL_law_232 ⟨(Nat.le_of_ble_eq_true rfl), (Nat.le_of_ble_eq_true rfl)⟩ (fun H locs hP hS => ?_)
      refine lv_aload_n hx hb dL_law_235 rfl (lv_at hl 2 rfl) ?_
      refine lv_aload_n hx hb dL_law_236 rfl (lv_at hl 0 rfl) ?_
      refine lv_iload_n hx hb dL_law_237 rfl (lv_at hl 3 rfl) ?_
      refine lv_iconst (v := 1) hx hb dL_law_238 (by decide) ?_
      refine lv_iadd hx hb dL_law_239 ?_
      refine va_sld hx hb hX hbl hbA hS hv1 dL_law_240 ?_
      refine lv_aload_n hx hb dL_law_241 rfl (lv_at hl 0 rfl) ?_
      refine lv_iload_n hx hb dL_law_242 rfl (lv_at hl 3 rfl) ?_
      refine lv_iconst (v := 2) hx hb dL_law_243 (by decide) ?_
      refine lv_iadd hx hb dL_law_244 ?_
      refine va_sld hx hb hX hbl hbA hS hv2 dL_law_245 ?_
      refine cV_putI X (As := [.int (xs ((x3 + 1) : Int32).toNatClampNeg), .int (xs ((x3 + 2) : Int32).toNatClampNeg)]) (rest := [.int o1]) (c_X9_cell l E d μ tm (xs ((x3 + 1) : Int32).toNatClampNeg) (xs ((x3 + 2) : Int32).toNatClampNeg) e2) pv_X9_cell ml_L_33 ⟨rfl, rfl⟩ ⟨(Nat.le_of_ble_eq_true rfl), (Nat.le_of_ble_eq_true rfl)⟩ hP hD hS (is := List.range' 65 13) (rngR rfl rfl) nd13 (wX9_g0_0 _ _ _ _) rfl (putR rfl rfl (wX9_adr _ _ _ _ _ _)) rfl hl.1 rfl (Nat.le_of_ble_eq_true rfl) dL_law_246 ⟨(Nat.le_of_ble_eq_true rfl), (Nat.le_of_ble_eq_true rfl)⟩ (fun H locs hP hD hS => ?_)
      refine lv_icmp_eq (tgt := 726) hx hb dL_law_249 (by decide) (fun _ => ?_) (fun c => absurd er c)
      refine lv_iinc (v := x3 + 5) (lv' := [(3, .int (x3 + 5)), (0, .ref b), (1, .ref (a 0)), (2, .ref (d 0))]) hx hb dL_law_726 hl (k := 3) rfl rfl (by decide) rfl (fun ls hl => ?_)
      refine lv_goto (tgt := 18) hx hb dL_law_729 (by decide) ?_
      exact ih (k + 5) (x3 + 5) h5 (by omega) hn5 a d σ tr o2.2 tm hR H locs hP hD hS ls (lv_sub hl [1, 2, 3, 0] rfl)
    by_cases c5 : sw = 4
    · refine lv_tableIn (off := 222) (tgt := 254) hx hb dL_law_32 (by rw [c5]; decide) (by rw [c5]; decide) (by rw [c5]; rfl) (by decide) ?_
      refine lv_aload_n hx hb dL_law_254 rfl (lv_at hl 1 rfl) ?_
      refine lv_aload_n hx hb dL_law_255 rfl (lv_at hl 0 rfl) ?_
      refine lv_iload_n hx hb dL_law_256 rfl (lv_at hl 3 rfl) ?_
      refine lv_iconst (v := 1) hx hb dL_law_257 (by decide) ?_
      refine lv_iadd hx hb dL_law_258 ?_
      refine va_sld hx hb hX hbl hbA hS hv1 dL_law_259 ?_
      refine lv_aload_n hx hb dL_law_260 rfl (lv_at hl 0 rfl) ?_
      refine lv_iload_n hx hb dL_law_261 rfl (lv_at hl 3 rfl) ?_
      refine lv_iconst (v := 2) hx hb dL_law_262 (by decide) ?_
      refine lv_iadd hx hb dL_law_263 ?_
      refine va_sld hx hb hX hbl hbA hS hv2 dL_law_264 ?_
      refine lv_aload_n hx hb dL_law_265 rfl (lv_at hl 0 rfl) ?_
      refine lv_iload_n hx hb dL_law_266 rfl (lv_at hl 3 rfl) ?_
      refine lv_iconst (v := 3) hx hb dL_law_267 (by decide) ?_
      refine lv_iadd hx hb dL_law_268 ?_
      refine va_sld hx hb hX hbl hbA hS hv3 dL_law_269 ?_
      obtain ⟨o1, o2, e1, e2, er, hR⟩ := hSt.2.2.2.2.1 σ tr μ tm hR (xs ((x3 + 1) : Int32).toNatClampNeg) (xs ((x3 + 2) : Int32).toNatClampNeg) (xs ((x3 + 3) : Int32).toNatClampNeg)
      refine cV_roI X (As := [.int (xs ((x3 + 1) : Int32).toNatClampNeg), .int (xs ((x3 + 2) : Int32).toNatClampNeg), .int (xs ((x3 + 3) : Int32).toNatClampNeg)]) (rest := []) (c_X8_at l E a σ tr (xs ((x3 + 1) : Int32).toNatClampNeg) (xs ((x3 + 2) : Int32).toNatClampNeg) (xs ((x3 + 3) : Int32).toNatClampNeg) e1) pv_X8_at ml_L_34 ⟨rfl, rfl⟩ ⟨(Nat.le_of_ble_eq_true rfl), (Nat.le_of_ble_eq_true rfl)⟩ hP hD hS (is := List.range 65) (rngL rfl) nd65 (wX8_g0_0 _ _ _ _) rfl rfl hl.1 rfl (Nat.le_of_ble_eq_true rfl) dL_law_270 ⟨(Nat.le_of_ble_eq_true rfl), (Nat.le_of_ble_eq_true rfl)⟩ (fun H locs hP hS => ?_)
      refine lv_aload_n hx hb dL_law_273 rfl (lv_at hl 2 rfl) ?_
      refine lv_aload_n hx hb dL_law_274 rfl (lv_at hl 0 rfl) ?_
      refine lv_iload_n hx hb dL_law_275 rfl (lv_at hl 3 rfl) ?_
      refine lv_iconst (v := 1) hx hb dL_law_276 (by decide) ?_
      refine lv_iadd hx hb dL_law_277 ?_
      refine va_sld hx hb hX hbl hbA hS hv1 dL_law_278 ?_
      refine lv_aload_n hx hb dL_law_279 rfl (lv_at hl 0 rfl) ?_
      refine lv_iload_n hx hb dL_law_280 rfl (lv_at hl 3 rfl) ?_
      refine lv_iconst (v := 2) hx hb dL_law_281 (by decide) ?_
      refine lv_iadd hx hb dL_law_282 ?_
      refine va_sld hx hb hX hbl hbA hS hv2 dL_law_283 ?_
      refine lv_aload_n hx hb dL_law_284 rfl (lv_at hl 0 rfl) ?_
      refine lv_iload_n hx hb dL_law_285 rfl (lv_at hl 3 rfl) ?_
      refine lv_iconst (v := 3) hx hb dL_law_286 (by decide) ?_
      refine lv_iadd hx hb dL_law_287 ?_
      refine va_sld hx hb hX hbl hbA hS hv3 dL_law_288 ?_
      refine cV_putI X (As := [.int (xs ((x3 + 1) : Int32).toNatClampNeg), .int (xs ((x3 + 2) : Int32).toNatClampNeg), .int (xs ((x3 + 3) : Int32).toNatClampNeg)]) (rest := [.int o1]) (c_X9_at l E d μ tm (xs ((x3 + 1) : Int32).toNatClampNeg) (xs ((x3 + 2) : Int32).toNatClampNeg) (xs ((x3 + 3) : Int32).toNatClampNeg) e2) pv_X9_at ml_L_38 ⟨rfl, rfl⟩ ⟨(Nat.le_of_ble_eq_true rfl), (Nat.le_of_ble_eq_true rfl)⟩ hP hD hS (is := List.range' 65 13) (rngR rfl rfl) nd13 (wX9_g0_0 _ _ _ _) rfl (putR rfl rfl (wX9_adr _ _ _ _ _ _)) rfl hl.1 rfl (Nat.le_of_ble_eq_true rfl) dL_law_289 ⟨(Nat.le_of_ble_eq_true rfl), (Nat.le_of_ble_eq_true rfl)⟩ (fun H locs hP hD hS => ?_)
      refine lv_icmp_eq (tgt := 726) hx hb dL_law_292 (by decide) (fun _ => ?_) (fun c => absurd er c)
      refine lv_iinc (v := x3 + 5) (lv' := [(3, .int (x3 + 5)), (0, .ref b), (1, .ref (a 0)), (2, .ref (d 0))]) hx hb dL_law_726 hl (k := 3) rfl rfl (by decide) rfl (fun ls hl => ?_)
      refine lv_goto (tgt := 18) hx hb dL_law_729 (by decide) ?_
      exact ih (k + 5) (x3 + 5) h5 (by omega) hn5 a d σ tr o2.2 tm hR H locs hP hD hS ls (lv_sub hl [1, 2, 3, 0] rfl)
    by_cases c6 : sw = 5
    · refine lv_tableIn (off := 265) (tgt := 297) hx hb dL_law_32 (by rw [c6]; decide) (by rw [c6]; decide) (by rw [c6]; rfl) (by decide) ?_
      refine lv_aload_n hx hb dL_law_297 rfl (lv_at hl 1 rfl) ?_
      refine lv_aload_n hx hb dL_law_298 rfl (lv_at hl 0 rfl) ?_
      refine lv_iload_n hx hb dL_law_299 rfl (lv_at hl 3 rfl) ?_
      refine lv_iconst (v := 1) hx hb dL_law_300 (by decide) ?_
      refine lv_iadd hx hb dL_law_301 ?_
      refine va_sld hx hb hX hbl hbA hS hv1 dL_law_302 ?_
      refine lv_aload_n hx hb dL_law_303 rfl (lv_at hl 0 rfl) ?_
      refine lv_iload_n hx hb dL_law_304 rfl (lv_at hl 3 rfl) ?_
      refine lv_iconst (v := 2) hx hb dL_law_305 (by decide) ?_
      refine lv_iadd hx hb dL_law_306 ?_
      refine va_sld hx hb hX hbl hbA hS hv2 dL_law_307 ?_
      refine lv_aload_n hx hb dL_law_308 rfl (lv_at hl 0 rfl) ?_
      refine lv_iload_n hx hb dL_law_309 rfl (lv_at hl 3 rfl) ?_
      refine lv_iconst (v := 3) hx hb dL_law_310 (by decide) ?_
      refine lv_iadd hx hb dL_law_311 ?_
      refine va_sld hx hb hX hbl hbA hS hv3 dL_law_312 ?_
      refine lv_aload_n hx hb dL_law_313 rfl (lv_at hl 0 rfl) ?_
      refine lv_iload_n hx hb dL_law_314 rfl (lv_at hl 3 rfl) ?_
      refine lv_iconst (v := 4) hx hb dL_law_315 (by decide) ?_
      refine lv_iadd hx hb dL_law_316 ?_
      refine va_sld hx hb hX hbl hbA hS hv4 dL_law_317 ?_
      obtain ⟨o1, o2, e1, e2, er, hR⟩ := hSt.2.2.2.2.2.1 σ tr μ tm hR (xs ((x3 + 1) : Int32).toNatClampNeg) (xs ((x3 + 2) : Int32).toNatClampNeg) (xs ((x3 + 3) : Int32).toNatClampNeg) (xs ((x3 + 4) : Int32).toNatClampNeg)
      refine cV_putI X (As := [.int (xs ((x3 + 1) : Int32).toNatClampNeg), .int (xs ((x3 + 2) : Int32).toNatClampNeg), .int (xs ((x3 + 3) : Int32).toNatClampNeg), .int (xs ((x3 + 4) : Int32).toNatClampNeg)]) (rest := []) (c_X8_fold l E a σ tr (xs ((x3 + 1) : Int32).toNatClampNeg) (xs ((x3 + 2) : Int32).toNatClampNeg) (xs ((x3 + 3) : Int32).toNatClampNeg) (xs ((x3 + 4) : Int32).toNatClampNeg) e1) pv_X8_fold ml_L_39 ⟨rfl, rfl⟩ ⟨(Nat.le_of_ble_eq_true rfl), (Nat.le_of_ble_eq_true rfl)⟩ hP hD hS (is := List.range 65) (rngL rfl) nd65 (wX8_g0_0 _ _ _ _) rfl (putL rfl (wX8_adr _ _ _ _ _ _)) rfl hl.1 rfl (Nat.le_of_ble_eq_true rfl) dL_law_318 ⟨(Nat.le_of_ble_eq_true rfl), (Nat.le_of_ble_eq_true rfl)⟩ (fun H locs hP hD hS => ?_)
      refine lv_aload_n hx hb dL_law_321 rfl (lv_at hl 2 rfl) ?_
      refine lv_aload_n hx hb dL_law_322 rfl (lv_at hl 0 rfl) ?_
      refine lv_iload_n hx hb dL_law_323 rfl (lv_at hl 3 rfl) ?_
      refine lv_iconst (v := 1) hx hb dL_law_324 (by decide) ?_
      refine lv_iadd hx hb dL_law_325 ?_
      refine va_sld hx hb hX hbl hbA hS hv1 dL_law_326 ?_
      refine lv_aload_n hx hb dL_law_327 rfl (lv_at hl 0 rfl) ?_
      refine lv_iload_n hx hb dL_law_328 rfl (lv_at hl 3 rfl) ?_
      refine lv_iconst (v := 2) hx hb dL_law_329 (by decide) ?_
      refine lv_iadd hx hb dL_law_330 ?_
      refine va_sld hx hb hX hbl hbA hS hv2 dL_law_331 ?_
      refine lv_aload_n hx hb dL_law_332 rfl (lv_at hl 0 rfl) ?_
      refine lv_iload_n hx hb dL_law_333 rfl (lv_at hl 3 rfl) ?_
      refine lv_iconst (v := 3) hx hb dL_law_334 (by decide) ?_
      refine lv_iadd hx hb dL_law_335 ?_
      refine va_sld hx hb hX hbl hbA hS hv3 dL_law_336 ?_
      refine lv_aload_n hx hb dL_law_337 rfl (lv_at hl 0 rfl) ?_
      refine lv_iload_n hx hb dL_law_338 rfl (lv_at hl 3 rfl) ?_
      refine lv_iconst (v := 4) hx hb dL_law_339 (by decide) ?_
      refine lv_iadd hx hb dL_law_340 ?_
      refine va_sld hx hb hX hbl hbA hS hv4 dL_law_341 ?_
      refine cV_putI X (As := [.int (xs ((x3 + 1) : Int32).toNatClampNeg), .int (xs ((x3 + 2) : Int32).toNatClampNeg), .int (xs ((x3 + 3) : Int32).toNatClampNeg), .int (xs ((x3 + 4) : Int32).toNatClampNeg)]) (rest := [.int o1.1]) (c_X9_fold l E d μ tm (xs ((x3 + 1) : Int32).toNatClampNeg) (xs ((x3 + 2) : Int32).toNatClampNeg) (xs ((x3 + 3) : Int32).toNatClampNeg) (xs ((x3 + 4) : Int32).toNatClampNeg) e2) pv_X9_fold ml_L_43 ⟨rfl, rfl⟩ ⟨(Nat.le_of_ble_eq_true rfl), (Nat.le_of_ble_eq_true rfl)⟩ hP hD hS (is := List.range' 65 13) (rngR rfl rfl) nd13 (wX9_g0_0 _ _ _ _) rfl (putR rfl rfl (wX9_adr _ _ _ _ _ _)) rfl hl.1 rfl (Nat.le_of_ble_eq_true rfl) dL_law_342 ⟨(Nat.le_of_ble_eq_true rfl), (Nat.le_of_ble_eq_true rfl)⟩ (fun H locs hP hD hS => ?_)
      refine lv_icmp_eq (tgt := 726) hx hb dL_law_345 (by decide) (fun _ => ?_) (fun c => absurd er c)
      refine lv_iinc (v := x3 + 5) (lv' := [(3, .int (x3 + 5)), (0, .ref b), (1, .ref (a 0)), (2, .ref (d 0))]) hx hb dL_law_726 hl (k := 3) rfl rfl (by decide) rfl (fun ls hl => ?_)
      refine lv_goto (tgt := 18) hx hb dL_law_729 (by decide) ?_
      exact ih (k + 5) (x3 + 5) h5 (by omega) hn5 a d o1.2 tr o2.2 tm hR H locs hP hD hS ls (lv_sub hl [1, 2, 3, 0] rfl)
    by_cases c7 : sw = 6
    · refine lv_tableIn (off := 318) (tgt := 350) hx hb dL_law_32 (by rw [c7]; decide) (by rw [c7]; decide) (by rw [c7]; rfl) (by decide) ?_
      refine lv_aload_n hx hb dL_law_350 rfl (lv_at hl 1 rfl) ?_
      obtain ⟨o1, o2, e1, e2, er, hR⟩ := hSt.2.2.2.2.2.2.1 σ tr μ tm hR
      refine cV_putI X (As := []) (rest := []) (c_X8_undo l E a σ tr e1) pv_X8_undo ml_L_44 ⟨rfl, rfl⟩ ⟨(Nat.le_of_ble_eq_true rfl), (Nat.le_of_ble_eq_true rfl)⟩ hP hD hS (is := List.range 65) (rngL rfl) nd65 (wX8_g0_0 _ _ _ _) rfl (putL rfl (wX8_adr _ _ _ _ _ _)) rfl hl.1 rfl (Nat.le_of_ble_eq_true rfl) dL_law_351 ⟨(Nat.le_of_ble_eq_true rfl), (Nat.le_of_ble_eq_true rfl)⟩ (fun H locs hP hD hS => ?_)
      refine lv_aload_n hx hb dL_law_354 rfl (lv_at hl 2 rfl) ?_
      refine cV_putI X (As := []) (rest := [.int o1.1]) (c_X9_undo l E d μ tm e2) pv_X9_undo ml_L_47 ⟨rfl, rfl⟩ ⟨(Nat.le_of_ble_eq_true rfl), (Nat.le_of_ble_eq_true rfl)⟩ hP hD hS (is := List.range' 65 13) (rngR rfl rfl) nd13 (wX9_g0_0 _ _ _ _) rfl (putR rfl rfl (wX9_adr _ _ _ _ _ _)) rfl hl.1 rfl (Nat.le_of_ble_eq_true rfl) dL_law_355 ⟨(Nat.le_of_ble_eq_true rfl), (Nat.le_of_ble_eq_true rfl)⟩ (fun H locs hP hD hS => ?_)
      refine lv_icmp_eq (tgt := 726) hx hb dL_law_358 (by decide) (fun _ => ?_) (fun c => absurd er c)
      refine lv_iinc (v := x3 + 5) (lv' := [(3, .int (x3 + 5)), (0, .ref b), (1, .ref (a 0)), (2, .ref (d 0))]) hx hb dL_law_726 hl (k := 3) rfl rfl (by decide) rfl (fun ls hl => ?_)
      refine lv_goto (tgt := 18) hx hb dL_law_729 (by decide) ?_
      exact ih (k + 5) (x3 + 5) h5 (by omega) hn5 a d o1.2 tr o2.2 tm hR H locs hP hD hS ls (lv_sub hl [1, 2, 3, 0] rfl)
    by_cases c8 : sw = 7
    · refine lv_tableIn (off := 331) (tgt := 363) hx hb dL_law_32 (by rw [c8]; decide) (by rw [c8]; decide) (by rw [c8]; rfl) (by decide) ?_
      refine lv_aload_n hx hb dL_law_363 rfl (lv_at hl 1 rfl) ?_
      obtain ⟨o1, o2, e1, e2, er, hR⟩ := hSt.2.2.2.2.2.2.2.1 σ tr μ tm hR
      refine cV_putI X (As := []) (rest := []) (c_X8_day l E a σ tr e1) pv_X8_day ml_L_48 ⟨rfl, rfl⟩ ⟨(Nat.le_of_ble_eq_true rfl), (Nat.le_of_ble_eq_true rfl)⟩ hP hD hS (is := List.range 65) (rngL rfl) nd65 (wX8_g0_0 _ _ _ _) rfl (putL rfl (wX8_adr _ _ _ _ _ _)) rfl hl.1 rfl (Nat.le_of_ble_eq_true rfl) dL_law_364 ⟨(Nat.le_of_ble_eq_true rfl), (Nat.le_of_ble_eq_true rfl)⟩ (fun H locs hP hD hS => ?_)
      refine lv_aload_n hx hb dL_law_367 rfl (lv_at hl 2 rfl) ?_
      refine cV_putI X (As := []) (rest := [.int o1.1]) (c_X9_day l E d μ tm e2) pv_X9_day ml_L_51 ⟨rfl, rfl⟩ ⟨(Nat.le_of_ble_eq_true rfl), (Nat.le_of_ble_eq_true rfl)⟩ hP hD hS (is := List.range' 65 13) (rngR rfl rfl) nd13 (wX9_g0_0 _ _ _ _) rfl (putR rfl rfl (wX9_adr _ _ _ _ _ _)) rfl hl.1 rfl (Nat.le_of_ble_eq_true rfl) dL_law_368 ⟨(Nat.le_of_ble_eq_true rfl), (Nat.le_of_ble_eq_true rfl)⟩ (fun H locs hP hD hS => ?_)
      refine lv_icmp_eq (tgt := 726) hx hb dL_law_371 (by decide) (fun _ => ?_) (fun c => absurd er c)
      refine lv_iinc (v := x3 + 5) (lv' := [(3, .int (x3 + 5)), (0, .ref b), (1, .ref (a 0)), (2, .ref (d 0))]) hx hb dL_law_726 hl (k := 3) rfl rfl (by decide) rfl (fun ls hl => ?_)
      refine lv_goto (tgt := 18) hx hb dL_law_729 (by decide) ?_
      exact ih (k + 5) (x3 + 5) h5 (by omega) hn5 a d o1.2 tr o2.2 tm hR H locs hP hD hS ls (lv_sub hl [1, 2, 3, 0] rfl)
    by_cases c9 : sw = 8
    · refine lv_tableIn (off := 344) (tgt := 376) hx hb dL_law_32 (by rw [c9]; decide) (by rw [c9]; decide) (by rw [c9]; rfl) (by decide) ?_
      refine lv_aload_n hx hb dL_law_376 rfl (lv_at hl 1 rfl) ?_
      refine lv_aload_n hx hb dL_law_377 rfl (lv_at hl 0 rfl) ?_
      refine lv_iload_n hx hb dL_law_378 rfl (lv_at hl 3 rfl) ?_
      refine lv_iconst (v := 1) hx hb dL_law_379 (by decide) ?_
      refine lv_iadd hx hb dL_law_380 ?_
      refine va_sld hx hb hX hbl hbA hS hv1 dL_law_381 ?_
      refine lv_aload_n hx hb dL_law_382 rfl (lv_at hl 0 rfl) ?_
      refine lv_iload_n hx hb dL_law_383 rfl (lv_at hl 3 rfl) ?_
      refine lv_iconst (v := 2) hx hb dL_law_384 (by decide) ?_
      refine lv_iadd hx hb dL_law_385 ?_
      refine va_sld hx hb hX hbl hbA hS hv2 dL_law_386 ?_
      obtain ⟨o1, o2, e1, e2, er, hR⟩ := hSt.2.2.2.2.2.2.2.2.1 σ tr μ tm hR (xs ((x3 + 1) : Int32).toNatClampNeg) (xs ((x3 + 2) : Int32).toNatClampNeg)
      refine cV_roI X (As := [.int (xs ((x3 + 1) : Int32).toNatClampNeg), .int (xs ((x3 + 2) : Int32).toNatClampNeg)]) (rest := []) (c_X8_bent l E a σ tr (xs ((x3 + 1) : Int32).toNatClampNeg) (xs ((x3 + 2) : Int32).toNatClampNeg) e1) pv_X8_bent ml_L_52 ⟨rfl, rfl⟩ ⟨(Nat.le_of_ble_eq_true rfl), (Nat.le_of_ble_eq_true rfl)⟩ hP hD hS (is := List.range 65) (rngL rfl) nd65 (wX8_g0_0 _ _ _ _) rfl rfl hl.1 rfl (Nat.le_of_ble_eq_true rfl) dL_law_387 ⟨(Nat.le_of_ble_eq_true rfl), (Nat.le_of_ble_eq_true rfl)⟩ (fun H locs hP hS => ?_)
      refine lv_aload_n hx hb dL_law_390 rfl (lv_at hl 2 rfl) ?_
      refine lv_aload_n hx hb dL_law_391 rfl (lv_at hl 0 rfl) ?_
      refine lv_iload_n hx hb dL_law_392 rfl (lv_at hl 3 rfl) ?_
      refine lv_iconst (v := 1) hx hb dL_law_393 (by decide) ?_
      refine lv_iadd hx hb dL_law_394 ?_
      refine va_sld hx hb hX hbl hbA hS hv1 dL_law_395 ?_
      refine lv_aload_n hx hb dL_law_396 rfl (lv_at hl 0 rfl) ?_
      refine lv_iload_n hx hb dL_law_397 rfl (lv_at hl 3 rfl) ?_
      refine lv_iconst (v := 2) hx hb dL_law_398 (by decide) ?_
      refine lv_iadd hx hb dL_law_399 ?_
      refine va_sld hx hb hX hbl hbA hS hv2 dL_law_400 ?_
      refine cV_roI X (As := [.int (xs ((x3 + 1) : Int32).toNatClampNeg), .int (xs ((x3 + 2) : Int32).toNatClampNeg)]) (rest := [.int o1]) (c_X9_bent l E d μ tm (xs ((x3 + 1) : Int32).toNatClampNeg) (xs ((x3 + 2) : Int32).toNatClampNeg) e2) pv_X9_bent ml_L_55 ⟨rfl, rfl⟩ ⟨(Nat.le_of_ble_eq_true rfl), (Nat.le_of_ble_eq_true rfl)⟩ hP hD hS (is := List.range' 65 13) (rngR rfl rfl) nd13 (wX9_g0_0 _ _ _ _) rfl rfl hl.1 rfl (Nat.le_of_ble_eq_true rfl) dL_law_401 ⟨(Nat.le_of_ble_eq_true rfl), (Nat.le_of_ble_eq_true rfl)⟩ (fun H locs hP hS => ?_)
      refine lv_icmp_eq (tgt := 726) hx hb dL_law_404 (by decide) (fun _ => ?_) (fun c => absurd er c)
      refine lv_iinc (v := x3 + 5) (lv' := [(3, .int (x3 + 5)), (0, .ref b), (1, .ref (a 0)), (2, .ref (d 0))]) hx hb dL_law_726 hl (k := 3) rfl rfl (by decide) rfl (fun ls hl => ?_)
      refine lv_goto (tgt := 18) hx hb dL_law_729 (by decide) ?_
      exact ih (k + 5) (x3 + 5) h5 (by omega) hn5 a d σ tr μ tm hR H locs hP hD hS ls (lv_sub hl [1, 2, 3, 0] rfl)
    by_cases c10 : sw = 9
    · refine lv_tableIn (off := 377) (tgt := 409) hx hb dL_law_32 (by rw [c10]; decide) (by rw [c10]; decide) (by rw [c10]; rfl) (by decide) ?_
      refine lv_aload_n hx hb dL_law_409 rfl (lv_at hl 1 rfl) ?_
      refine lv_aload_n hx hb dL_law_410 rfl (lv_at hl 0 rfl) ?_
      refine lv_iload_n hx hb dL_law_411 rfl (lv_at hl 3 rfl) ?_
      refine lv_iconst (v := 1) hx hb dL_law_412 (by decide) ?_
      refine lv_iadd hx hb dL_law_413 ?_
      refine va_sld hx hb hX hbl hbA hS hv1 dL_law_414 ?_
      refine lv_aload_n hx hb dL_law_415 rfl (lv_at hl 0 rfl) ?_
      refine lv_iload_n hx hb dL_law_416 rfl (lv_at hl 3 rfl) ?_
      refine lv_iconst (v := 2) hx hb dL_law_417 (by decide) ?_
      refine lv_iadd hx hb dL_law_418 ?_
      refine va_sld hx hb hX hbl hbA hS hv2 dL_law_419 ?_
      obtain ⟨o1, o2, e1, e2, er, hR⟩ := hSt.2.2.2.2.2.2.2.2.2.1 σ tr μ tm hR (xs ((x3 + 1) : Int32).toNatClampNeg) (xs ((x3 + 2) : Int32).toNatClampNeg)
      refine cV_roI X (As := [.int (xs ((x3 + 1) : Int32).toNatClampNeg), .int (xs ((x3 + 2) : Int32).toNatClampNeg)]) (rest := []) (c_X8_touch l E a σ tr (xs ((x3 + 1) : Int32).toNatClampNeg) (xs ((x3 + 2) : Int32).toNatClampNeg) e1) pv_X8_touch ml_L_56 ⟨rfl, rfl⟩ ⟨(Nat.le_of_ble_eq_true rfl), (Nat.le_of_ble_eq_true rfl)⟩ hP hD hS (is := List.range 65) (rngL rfl) nd65 (wX8_g0_0 _ _ _ _) rfl rfl hl.1 rfl (Nat.le_of_ble_eq_true rfl) dL_law_420 ⟨(Nat.le_of_ble_eq_true rfl), (Nat.le_of_ble_eq_true rfl)⟩ (fun H locs hP hS => ?_)
      refine lv_aload_n hx hb dL_law_423 rfl (lv_at hl 2 rfl) ?_
      refine lv_aload_n hx hb dL_law_424 rfl (lv_at hl 0 rfl) ?_
      refine lv_iload_n hx hb dL_law_425 rfl (lv_at hl 3 rfl) ?_
      refine lv_iconst (v := 1) hx hb dL_law_426 (by decide) ?_
      refine lv_iadd hx hb dL_law_427 ?_
      refine va_sld hx hb hX hbl hbA hS hv1 dL_law_428 ?_
      refine lv_aload_n hx hb dL_law_429 rfl (lv_at hl 0 rfl) ?_
      refine lv_iload_n hx hb dL_law_430 rfl (lv_at hl 3 rfl) ?_
      refine lv_iconst (v := 2) hx hb dL_law_431 (by decide) ?_
      refine lv_iadd hx hb dL_law_432 ?_
      refine va_sld hx hb hX hbl hbA hS hv2 dL_law_433 ?_
      refine cV_putI X (As := [.int (xs ((x3 + 1) : Int32).toNatClampNeg), .int (xs ((x3 + 2) : Int32).toNatClampNeg)]) (rest := [.int o1]) (c_X9_touch l E d μ tm (xs ((x3 + 1) : Int32).toNatClampNeg) (xs ((x3 + 2) : Int32).toNatClampNeg) e2) pv_X9_touch ml_L_59 ⟨rfl, rfl⟩ ⟨(Nat.le_of_ble_eq_true rfl), (Nat.le_of_ble_eq_true rfl)⟩ hP hD hS (is := List.range' 65 13) (rngR rfl rfl) nd13 (wX9_g0_0 _ _ _ _) rfl (putR rfl rfl (wX9_adr _ _ _ _ _ _)) rfl hl.1 rfl (Nat.le_of_ble_eq_true rfl) dL_law_434 ⟨(Nat.le_of_ble_eq_true rfl), (Nat.le_of_ble_eq_true rfl)⟩ (fun H locs hP hD hS => ?_)
      refine lv_icmp_eq (tgt := 726) hx hb dL_law_437 (by decide) (fun _ => ?_) (fun c => absurd er c)
      refine lv_iinc (v := x3 + 5) (lv' := [(3, .int (x3 + 5)), (0, .ref b), (1, .ref (a 0)), (2, .ref (d 0))]) hx hb dL_law_726 hl (k := 3) rfl rfl (by decide) rfl (fun ls hl => ?_)
      refine lv_goto (tgt := 18) hx hb dL_law_729 (by decide) ?_
      exact ih (k + 5) (x3 + 5) h5 (by omega) hn5 a d σ tr o2.2 tm hR H locs hP hD hS ls (lv_sub hl [1, 2, 3, 0] rfl)
    by_cases c11 : sw = 10
    · refine lv_tableIn (off := 410) (tgt := 442) hx hb dL_law_32 (by rw [c11]; decide) (by rw [c11]; decide) (by rw [c11]; rfl) (by decide) ?_
      refine lv_aload_n hx hb dL_law_442 rfl (lv_at hl 1 rfl) ?_
      refine lv_aload_n hx hb dL_law_443 rfl (lv_at hl 0 rfl) ?_
      refine lv_iload_n hx hb dL_law_444 rfl (lv_at hl 3 rfl) ?_
      refine lv_iconst (v := 1) hx hb dL_law_445 (by decide) ?_
      refine lv_iadd hx hb dL_law_446 ?_
      refine va_sld hx hb hX hbl hbA hS hv1 dL_law_447 ?_
      obtain ⟨o1, o2, e1, e2, er, hR⟩ := hSt.2.2.2.2.2.2.2.2.2.2.1 σ tr μ tm hR (xs ((x3 + 1) : Int32).toNatClampNeg)
      refine cV_roI X (As := [.int (xs ((x3 + 1) : Int32).toNatClampNeg)]) (rest := []) (c_X8_packet l E a σ tr (xs ((x3 + 1) : Int32).toNatClampNeg) e1) pv_X8_packet ml_L_60 ⟨rfl, rfl⟩ ⟨(Nat.le_of_ble_eq_true rfl), (Nat.le_of_ble_eq_true rfl)⟩ hP hD hS (is := List.range 65) (rngL rfl) nd65 (wX8_g0_0 _ _ _ _) rfl rfl hl.1 rfl (Nat.le_of_ble_eq_true rfl) dL_law_448 ⟨(Nat.le_of_ble_eq_true rfl), (Nat.le_of_ble_eq_true rfl)⟩ (fun H locs hP hS => ?_)
      refine lv_aload_n hx hb dL_law_451 rfl (lv_at hl 2 rfl) ?_
      refine lv_aload_n hx hb dL_law_452 rfl (lv_at hl 0 rfl) ?_
      refine lv_iload_n hx hb dL_law_453 rfl (lv_at hl 3 rfl) ?_
      refine lv_iconst (v := 1) hx hb dL_law_454 (by decide) ?_
      refine lv_iadd hx hb dL_law_455 ?_
      refine va_sld hx hb hX hbl hbA hS hv1 dL_law_456 ?_
      refine cV_putI X (As := [.int (xs ((x3 + 1) : Int32).toNatClampNeg)]) (rest := [.int o1]) (c_X9_packet l E d μ tm (xs ((x3 + 1) : Int32).toNatClampNeg) e2) pv_X9_packet ml_L_64 ⟨rfl, rfl⟩ ⟨(Nat.le_of_ble_eq_true rfl), (Nat.le_of_ble_eq_true rfl)⟩ hP hD hS (is := List.range' 65 13) (rngR rfl rfl) nd13 (wX9_g0_0 _ _ _ _) rfl (putR rfl rfl (wX9_adr _ _ _ _ _ _)) rfl hl.1 rfl (Nat.le_of_ble_eq_true rfl) dL_law_457 ⟨(Nat.le_of_ble_eq_true rfl), (Nat.le_of_ble_eq_true rfl)⟩ (fun H locs hP hD hS => ?_)
      refine lv_icmp_eq (tgt := 726) hx hb dL_law_460 (by decide) (fun _ => ?_) (fun c => absurd er c)
      refine lv_iinc (v := x3 + 5) (lv' := [(3, .int (x3 + 5)), (0, .ref b), (1, .ref (a 0)), (2, .ref (d 0))]) hx hb dL_law_726 hl (k := 3) rfl rfl (by decide) rfl (fun ls hl => ?_)
      refine lv_goto (tgt := 18) hx hb dL_law_729 (by decide) ?_
      exact ih (k + 5) (x3 + 5) h5 (by omega) hn5 a d σ tr o2.2 tm hR H locs hP hD hS ls (lv_sub hl [1, 2, 3, 0] rfl)
    by_cases c12 : sw = 11
    · refine lv_tableIn (off := 433) (tgt := 465) hx hb dL_law_32 (by rw [c12]; decide) (by rw [c12]; decide) (by rw [c12]; rfl) (by decide) ?_
      refine lv_aload_n hx hb dL_law_465 rfl (lv_at hl 1 rfl) ?_
      refine lv_aload_n hx hb dL_law_466 rfl (lv_at hl 0 rfl) ?_
      refine lv_iload_n hx hb dL_law_467 rfl (lv_at hl 3 rfl) ?_
      refine lv_iconst (v := 1) hx hb dL_law_468 (by decide) ?_
      refine lv_iadd hx hb dL_law_469 ?_
      refine va_sld hx hb hX hbl hbA hS hv1 dL_law_470 ?_
      refine lv_aload_n hx hb dL_law_471 rfl (lv_at hl 0 rfl) ?_
      refine lv_iload_n hx hb dL_law_472 rfl (lv_at hl 3 rfl) ?_
      refine lv_iconst (v := 2) hx hb dL_law_473 (by decide) ?_
      refine lv_iadd hx hb dL_law_474 ?_
      refine va_sld hx hb hX hbl hbA hS hv2 dL_law_475 ?_
      refine lv_aload_n hx hb dL_law_476 rfl (lv_at hl 0 rfl) ?_
      refine lv_iload_n hx hb dL_law_477 rfl (lv_at hl 3 rfl) ?_
      refine lv_iconst (v := 3) hx hb dL_law_478 (by decide) ?_
      refine lv_iadd hx hb dL_law_479 ?_
      refine va_sld hx hb hX hbl hbA hS hv3 dL_law_480 ?_
      obtain ⟨o1, o2, e1, e2, er, hR⟩ := hSt.2.2.2.2.2.2.2.2.2.2.2.1 σ tr μ tm hR (xs ((x3 + 1) : Int32).toNatClampNeg) (xs ((x3 + 2) : Int32).toNatClampNeg) (xs ((x3 + 3) : Int32).toNatClampNeg)
      refine cV_putI X (As := [.int (xs ((x3 + 1) : Int32).toNatClampNeg), .int (xs ((x3 + 2) : Int32).toNatClampNeg), .int (xs ((x3 + 3) : Int32).toNatClampNeg)]) (rest := []) (c_X8_reach l E a σ tr (xs ((x3 + 1) : Int32).toNatClampNeg) (xs ((x3 + 2) : Int32).toNatClampNeg) (xs ((x3 + 3) : Int32).toNatClampNeg) e1) pv_X8_reach ml_L_65 ⟨rfl, rfl⟩ ⟨(Nat.le_of_ble_eq_true rfl), (Nat.le_of_ble_eq_true rfl)⟩ hP hD hS (is := List.range 65) (rngL rfl) nd65 (wX8_g0_0 _ _ _ _) rfl (putL rfl (wX8_adr _ _ _ _ _ _)) rfl hl.1 rfl (Nat.le_of_ble_eq_true rfl) dL_law_481 ⟨(Nat.le_of_ble_eq_true rfl), (Nat.le_of_ble_eq_true rfl)⟩ (fun H locs hP hD hS => ?_)
      refine lv_aload_n hx hb dL_law_484 rfl (lv_at hl 2 rfl) ?_
      refine lv_aload_n hx hb dL_law_485 rfl (lv_at hl 0 rfl) ?_
      refine lv_iload_n hx hb dL_law_486 rfl (lv_at hl 3 rfl) ?_
      refine lv_iconst (v := 1) hx hb dL_law_487 (by decide) ?_
      refine lv_iadd hx hb dL_law_488 ?_
      refine va_sld hx hb hX hbl hbA hS hv1 dL_law_489 ?_
      refine lv_aload_n hx hb dL_law_490 rfl (lv_at hl 0 rfl) ?_
      refine lv_iload_n hx hb dL_law_491 rfl (lv_at hl 3 rfl) ?_
      refine lv_iconst (v := 2) hx hb dL_law_492 (by decide) ?_
      refine lv_iadd hx hb dL_law_493 ?_
      refine va_sld hx hb hX hbl hbA hS hv2 dL_law_494 ?_
      refine lv_aload_n hx hb dL_law_495 rfl (lv_at hl 0 rfl) ?_
      refine lv_iload_n hx hb dL_law_496 rfl (lv_at hl 3 rfl) ?_
      refine lv_iconst (v := 3) hx hb dL_law_497 (by decide) ?_
      refine lv_iadd hx hb dL_law_498 ?_
      refine va_sld hx hb hX hbl hbA hS hv3 dL_law_499 ?_
      refine cV_putI X (As := [.int (xs ((x3 + 1) : Int32).toNatClampNeg), .int (xs ((x3 + 2) : Int32).toNatClampNeg), .int (xs ((x3 + 3) : Int32).toNatClampNeg)]) (rest := [.int o1.1]) (c_X9_reach l E d μ tm (xs ((x3 + 1) : Int32).toNatClampNeg) (xs ((x3 + 2) : Int32).toNatClampNeg) (xs ((x3 + 3) : Int32).toNatClampNeg) e2) pv_X9_reach ml_L_68 ⟨rfl, rfl⟩ ⟨(Nat.le_of_ble_eq_true rfl), (Nat.le_of_ble_eq_true rfl)⟩ hP hD hS (is := List.range' 65 13) (rngR rfl rfl) nd13 (wX9_g0_0 _ _ _ _) rfl (putR rfl rfl (wX9_adr _ _ _ _ _ _)) rfl hl.1 rfl (Nat.le_of_ble_eq_true rfl) dL_law_500 ⟨(Nat.le_of_ble_eq_true rfl), (Nat.le_of_ble_eq_true rfl)⟩ (fun H locs hP hD hS => ?_)
      refine lv_icmp_eq (tgt := 726) hx hb dL_law_503 (by decide) (fun _ => ?_) (fun c => absurd er c)
      refine lv_iinc (v := x3 + 5) (lv' := [(3, .int (x3 + 5)), (0, .ref b), (1, .ref (a 0)), (2, .ref (d 0))]) hx hb dL_law_726 hl (k := 3) rfl rfl (by decide) rfl (fun ls hl => ?_)
      refine lv_goto (tgt := 18) hx hb dL_law_729 (by decide) ?_
      exact ih (k + 5) (x3 + 5) h5 (by omega) hn5 a d o1.2 tr o2.2 tm hR H locs hP hD hS ls (lv_sub hl [1, 2, 3, 0] rfl)
    by_cases c13 : sw = 12
    · refine lv_tableIn (off := 476) (tgt := 508) hx hb dL_law_32 (by rw [c13]; decide) (by rw [c13]; decide) (by rw [c13]; rfl) (by decide) ?_
      refine lv_aload_n hx hb dL_law_508 rfl (lv_at hl 1 rfl) ?_
      refine lv_aload_n hx hb dL_law_509 rfl (lv_at hl 0 rfl) ?_
      refine lv_iload_n hx hb dL_law_510 rfl (lv_at hl 3 rfl) ?_
      refine lv_iconst (v := 1) hx hb dL_law_511 (by decide) ?_
      refine lv_iadd hx hb dL_law_512 ?_
      refine va_sld hx hb hX hbl hbA hS hv1 dL_law_513 ?_
      refine lv_aload_n hx hb dL_law_514 rfl (lv_at hl 0 rfl) ?_
      refine lv_iload_n hx hb dL_law_515 rfl (lv_at hl 3 rfl) ?_
      refine lv_iconst (v := 2) hx hb dL_law_516 (by decide) ?_
      refine lv_iadd hx hb dL_law_517 ?_
      refine va_sld hx hb hX hbl hbA hS hv2 dL_law_518 ?_
      obtain ⟨o1, o2, e1, e2, er, hR⟩ := hSt.2.2.2.2.2.2.2.2.2.2.2.2.1 σ tr μ tm hR (xs ((x3 + 1) : Int32).toNatClampNeg) (xs ((x3 + 2) : Int32).toNatClampNeg)
      refine cV_putI X (As := [.int (xs ((x3 + 1) : Int32).toNatClampNeg), .int (xs ((x3 + 2) : Int32).toNatClampNeg)]) (rest := []) (c_X8_serves l E a σ tr (xs ((x3 + 1) : Int32).toNatClampNeg) (xs ((x3 + 2) : Int32).toNatClampNeg) e1) pv_X8_serves ml_L_69 ⟨rfl, rfl⟩ ⟨(Nat.le_of_ble_eq_true rfl), (Nat.le_of_ble_eq_true rfl)⟩ hP hD hS (is := List.range 65) (rngL rfl) nd65 (wX8_g0_0 _ _ _ _) rfl (putL rfl (wX8_adr _ _ _ _ _ _)) rfl hl.1 rfl (Nat.le_of_ble_eq_true rfl) dL_law_519 ⟨(Nat.le_of_ble_eq_true rfl), (Nat.le_of_ble_eq_true rfl)⟩ (fun H locs hP hD hS => ?_)
      refine lv_aload_n hx hb dL_law_522 rfl (lv_at hl 2 rfl) ?_
      refine lv_aload_n hx hb dL_law_523 rfl (lv_at hl 0 rfl) ?_
      refine lv_iload_n hx hb dL_law_524 rfl (lv_at hl 3 rfl) ?_
      refine lv_iconst (v := 1) hx hb dL_law_525 (by decide) ?_
      refine lv_iadd hx hb dL_law_526 ?_
      refine va_sld hx hb hX hbl hbA hS hv1 dL_law_527 ?_
      refine lv_aload_n hx hb dL_law_528 rfl (lv_at hl 0 rfl) ?_
      refine lv_iload_n hx hb dL_law_529 rfl (lv_at hl 3 rfl) ?_
      refine lv_iconst (v := 2) hx hb dL_law_530 (by decide) ?_
      refine lv_iadd hx hb dL_law_531 ?_
      refine va_sld hx hb hX hbl hbA hS hv2 dL_law_532 ?_
      refine cV_putI X (As := [.int (xs ((x3 + 1) : Int32).toNatClampNeg), .int (xs ((x3 + 2) : Int32).toNatClampNeg)]) (rest := [.int o1.1]) (c_X9_serves l E d μ tm (xs ((x3 + 1) : Int32).toNatClampNeg) (xs ((x3 + 2) : Int32).toNatClampNeg) e2) pv_X9_serves ml_L_72 ⟨rfl, rfl⟩ ⟨(Nat.le_of_ble_eq_true rfl), (Nat.le_of_ble_eq_true rfl)⟩ hP hD hS (is := List.range' 65 13) (rngR rfl rfl) nd13 (wX9_g0_0 _ _ _ _) rfl (putR rfl rfl (wX9_adr _ _ _ _ _ _)) rfl hl.1 rfl (Nat.le_of_ble_eq_true rfl) dL_law_533 ⟨(Nat.le_of_ble_eq_true rfl), (Nat.le_of_ble_eq_true rfl)⟩ (fun H locs hP hD hS => ?_)
      refine lv_icmp_eq (tgt := 726) hx hb dL_law_536 (by decide) (fun _ => ?_) (fun c => absurd er c)
      refine lv_iinc (v := x3 + 5) (lv' := [(3, .int (x3 + 5)), (0, .ref b), (1, .ref (a 0)), (2, .ref (d 0))]) hx hb dL_law_726 hl (k := 3) rfl rfl (by decide) rfl (fun ls hl => ?_)
      refine lv_goto (tgt := 18) hx hb dL_law_729 (by decide) ?_
      exact ih (k + 5) (x3 + 5) h5 (by omega) hn5 a d o1.2 tr o2.2 tm hR H locs hP hD hS ls (lv_sub hl [1, 2, 3, 0] rfl)
    by_cases c14 : sw = 13
    · refine lv_tableIn (off := 509) (tgt := 541) hx hb dL_law_32 (by rw [c14]; decide) (by rw [c14]; decide) (by rw [c14]; rfl) (by decide) ?_
      refine lv_aload_n hx hb dL_law_541 rfl (lv_at hl 1 rfl) ?_
      refine lv_aload_n hx hb dL_law_542 rfl (lv_at hl 0 rfl) ?_
      refine lv_iload_n hx hb dL_law_543 rfl (lv_at hl 3 rfl) ?_
      refine lv_iconst (v := 1) hx hb dL_law_544 (by decide) ?_
      refine lv_iadd hx hb dL_law_545 ?_
      refine va_sld hx hb hX hbl hbA hS hv1 dL_law_546 ?_
      refine lv_aload_n hx hb dL_law_547 rfl (lv_at hl 0 rfl) ?_
      refine lv_iload_n hx hb dL_law_548 rfl (lv_at hl 3 rfl) ?_
      refine lv_iconst (v := 2) hx hb dL_law_549 (by decide) ?_
      refine lv_iadd hx hb dL_law_550 ?_
      refine va_sld hx hb hX hbl hbA hS hv2 dL_law_551 ?_
      obtain ⟨o1, o2, e1, e2, er, hR⟩ := hSt.2.2.2.2.2.2.2.2.2.2.2.2.2.1 σ tr μ tm hR (xs ((x3 + 1) : Int32).toNatClampNeg) (xs ((x3 + 2) : Int32).toNatClampNeg)
      refine cV_putI X (As := [.int (xs ((x3 + 1) : Int32).toNatClampNeg), .int (xs ((x3 + 2) : Int32).toNatClampNeg)]) (rest := []) (c_X8_saw l E a σ tr (xs ((x3 + 1) : Int32).toNatClampNeg) (xs ((x3 + 2) : Int32).toNatClampNeg) e1) pv_X8_saw ml_L_73 ⟨rfl, rfl⟩ ⟨(Nat.le_of_ble_eq_true rfl), (Nat.le_of_ble_eq_true rfl)⟩ hP hD hS (is := List.range 65) (rngL rfl) nd65 (wX8_g0_0 _ _ _ _) rfl (putL rfl (wX8_adr _ _ _ _ _ _)) rfl hl.1 rfl (Nat.le_of_ble_eq_true rfl) dL_law_552 ⟨(Nat.le_of_ble_eq_true rfl), (Nat.le_of_ble_eq_true rfl)⟩ (fun H locs hP hD hS => ?_)
      refine lv_aload_n hx hb dL_law_555 rfl (lv_at hl 2 rfl) ?_
      refine lv_aload_n hx hb dL_law_556 rfl (lv_at hl 0 rfl) ?_
      refine lv_iload_n hx hb dL_law_557 rfl (lv_at hl 3 rfl) ?_
      refine lv_iconst (v := 1) hx hb dL_law_558 (by decide) ?_
      refine lv_iadd hx hb dL_law_559 ?_
      refine va_sld hx hb hX hbl hbA hS hv1 dL_law_560 ?_
      refine lv_aload_n hx hb dL_law_561 rfl (lv_at hl 0 rfl) ?_
      refine lv_iload_n hx hb dL_law_562 rfl (lv_at hl 3 rfl) ?_
      refine lv_iconst (v := 2) hx hb dL_law_563 (by decide) ?_
      refine lv_iadd hx hb dL_law_564 ?_
      refine va_sld hx hb hX hbl hbA hS hv2 dL_law_565 ?_
      refine cV_putI X (As := [.int (xs ((x3 + 1) : Int32).toNatClampNeg), .int (xs ((x3 + 2) : Int32).toNatClampNeg)]) (rest := [.int o1.1]) (c_X9_saw l E d μ tm (xs ((x3 + 1) : Int32).toNatClampNeg) (xs ((x3 + 2) : Int32).toNatClampNeg) e2) pv_X9_saw ml_L_76 ⟨rfl, rfl⟩ ⟨(Nat.le_of_ble_eq_true rfl), (Nat.le_of_ble_eq_true rfl)⟩ hP hD hS (is := List.range' 65 13) (rngR rfl rfl) nd13 (wX9_g0_0 _ _ _ _) rfl (putR rfl rfl (wX9_adr _ _ _ _ _ _)) rfl hl.1 rfl (Nat.le_of_ble_eq_true rfl) dL_law_566 ⟨(Nat.le_of_ble_eq_true rfl), (Nat.le_of_ble_eq_true rfl)⟩ (fun H locs hP hD hS => ?_)
      refine lv_icmp_eq (tgt := 726) hx hb dL_law_569 (by decide) (fun _ => ?_) (fun c => absurd er c)
      refine lv_iinc (v := x3 + 5) (lv' := [(3, .int (x3 + 5)), (0, .ref b), (1, .ref (a 0)), (2, .ref (d 0))]) hx hb dL_law_726 hl (k := 3) rfl rfl (by decide) rfl (fun ls hl => ?_)
      refine lv_goto (tgt := 18) hx hb dL_law_729 (by decide) ?_
      exact ih (k + 5) (x3 + 5) h5 (by omega) hn5 a d o1.2 tr o2.2 tm hR H locs hP hD hS ls (lv_sub hl [1, 2, 3, 0] rfl)
    by_cases c15 : sw = 14
    · refine lv_tableIn (off := 542) (tgt := 574) hx hb dL_law_32 (by rw [c15]; decide) (by rw [c15]; decide) (by rw [c15]; rfl) (by decide) ?_
      refine lv_aload_n hx hb dL_law_574 rfl (lv_at hl 1 rfl) ?_
      obtain ⟨o1, o2, e1, e2, er, hR⟩ := hSt.2.2.2.2.2.2.2.2.2.2.2.2.2.2.1 σ tr μ tm hR
      refine cV_putI X (As := []) (rest := []) (c_X8_forget l E a σ tr e1) pv_X8_forget ml_L_77 ⟨rfl, rfl⟩ ⟨(Nat.le_of_ble_eq_true rfl), (Nat.le_of_ble_eq_true rfl)⟩ hP hD hS (is := List.range 65) (rngL rfl) nd65 (wX8_g0_0 _ _ _ _) rfl (putL rfl (wX8_adr _ _ _ _ _ _)) rfl hl.1 rfl (Nat.le_of_ble_eq_true rfl) dL_law_575 ⟨(Nat.le_of_ble_eq_true rfl), (Nat.le_of_ble_eq_true rfl)⟩ (fun H locs hP hD hS => ?_)
      refine lv_aload_n hx hb dL_law_578 rfl (lv_at hl 2 rfl) ?_
      refine cV_putI X (As := []) (rest := [.int o1.1]) (c_X9_forget l E d μ tm e2) pv_X9_forget ml_L_80 ⟨rfl, rfl⟩ ⟨(Nat.le_of_ble_eq_true rfl), (Nat.le_of_ble_eq_true rfl)⟩ hP hD hS (is := List.range' 65 13) (rngR rfl rfl) nd13 (wX9_g0_0 _ _ _ _) rfl (putR rfl rfl (wX9_adr _ _ _ _ _ _)) rfl hl.1 rfl (Nat.le_of_ble_eq_true rfl) dL_law_579 ⟨(Nat.le_of_ble_eq_true rfl), (Nat.le_of_ble_eq_true rfl)⟩ (fun H locs hP hD hS => ?_)
      refine lv_icmp_eq (tgt := 726) hx hb dL_law_582 (by decide) (fun _ => ?_) (fun c => absurd er c)
      refine lv_iinc (v := x3 + 5) (lv' := [(3, .int (x3 + 5)), (0, .ref b), (1, .ref (a 0)), (2, .ref (d 0))]) hx hb dL_law_726 hl (k := 3) rfl rfl (by decide) rfl (fun ls hl => ?_)
      refine lv_goto (tgt := 18) hx hb dL_law_729 (by decide) ?_
      exact ih (k + 5) (x3 + 5) h5 (by omega) hn5 a d o1.2 tr o2.2 tm hR H locs hP hD hS ls (lv_sub hl [1, 2, 3, 0] rfl)
    by_cases c16 : sw = 15
    · refine lv_tableIn (off := 555) (tgt := 587) hx hb dL_law_32 (by rw [c16]; decide) (by rw [c16]; decide) (by rw [c16]; rfl) (by decide) ?_
      refine lv_aload_n hx hb dL_law_587 rfl (lv_at hl 1 rfl) ?_
      refine lv_aload_n hx hb dL_law_588 rfl (lv_at hl 0 rfl) ?_
      refine lv_iload_n hx hb dL_law_589 rfl (lv_at hl 3 rfl) ?_
      refine lv_iconst (v := 1) hx hb dL_law_590 (by decide) ?_
      refine lv_iadd hx hb dL_law_591 ?_
      refine va_sld hx hb hX hbl hbA hS hv1 dL_law_592 ?_
      obtain ⟨o1, o2, e1, e2, er, hR⟩ := hSt.2.2.2.2.2.2.2.2.2.2.2.2.2.2.2.1 σ tr μ tm hR (xs ((x3 + 1) : Int32).toNatClampNeg)
      refine cV_putI X (As := [.int (xs ((x3 + 1) : Int32).toNatClampNeg)]) (rest := []) (c_X8_fits l E a σ tr (xs ((x3 + 1) : Int32).toNatClampNeg) e1) pv_X8_fits ml_L_81 ⟨rfl, rfl⟩ ⟨(Nat.le_of_ble_eq_true rfl), (Nat.le_of_ble_eq_true rfl)⟩ hP hD hS (is := List.range 65) (rngL rfl) nd65 (wX8_g0_0 _ _ _ _) rfl (putL rfl (wX8_adr _ _ _ _ _ _)) rfl hl.1 rfl (Nat.le_of_ble_eq_true rfl) dL_law_593 ⟨(Nat.le_of_ble_eq_true rfl), (Nat.le_of_ble_eq_true rfl)⟩ (fun H locs hP hD hS => ?_)
      refine lv_aload_n hx hb dL_law_596 rfl (lv_at hl 2 rfl) ?_
      refine lv_aload_n hx hb dL_law_597 rfl (lv_at hl 0 rfl) ?_
      refine lv_iload_n hx hb dL_law_598 rfl (lv_at hl 3 rfl) ?_
      refine lv_iconst (v := 1) hx hb dL_law_599 (by decide) ?_
      refine lv_iadd hx hb dL_law_600 ?_
      refine va_sld hx hb hX hbl hbA hS hv1 dL_law_601 ?_
      refine cV_putI X (As := [.int (xs ((x3 + 1) : Int32).toNatClampNeg)]) (rest := [.int o1.1]) (c_X9_fits l E d μ tm (xs ((x3 + 1) : Int32).toNatClampNeg) e2) pv_X9_fits ml_L_84 ⟨rfl, rfl⟩ ⟨(Nat.le_of_ble_eq_true rfl), (Nat.le_of_ble_eq_true rfl)⟩ hP hD hS (is := List.range' 65 13) (rngR rfl rfl) nd13 (wX9_g0_0 _ _ _ _) rfl (putR rfl rfl (wX9_adr _ _ _ _ _ _)) rfl hl.1 rfl (Nat.le_of_ble_eq_true rfl) dL_law_602 ⟨(Nat.le_of_ble_eq_true rfl), (Nat.le_of_ble_eq_true rfl)⟩ (fun H locs hP hD hS => ?_)
      refine lv_icmp_eq (tgt := 726) hx hb dL_law_605 (by decide) (fun _ => ?_) (fun c => absurd er c)
      refine lv_iinc (v := x3 + 5) (lv' := [(3, .int (x3 + 5)), (0, .ref b), (1, .ref (a 0)), (2, .ref (d 0))]) hx hb dL_law_726 hl (k := 3) rfl rfl (by decide) rfl (fun ls hl => ?_)
      refine lv_goto (tgt := 18) hx hb dL_law_729 (by decide) ?_
      exact ih (k + 5) (x3 + 5) h5 (by omega) hn5 a d o1.2 tr o2.2 tm hR H locs hP hD hS ls (lv_sub hl [1, 2, 3, 0] rfl)
    by_cases c17 : sw = 16
    · refine lv_tableIn (off := 578) (tgt := 610) hx hb dL_law_32 (by rw [c17]; decide) (by rw [c17]; decide) (by rw [c17]; rfl) (by decide) ?_
      refine lv_aload_n hx hb dL_law_610 rfl (lv_at hl 1 rfl) ?_
      refine lv_aload_n hx hb dL_law_611 rfl (lv_at hl 0 rfl) ?_
      refine lv_iload_n hx hb dL_law_612 rfl (lv_at hl 3 rfl) ?_
      refine lv_iconst (v := 1) hx hb dL_law_613 (by decide) ?_
      refine lv_iadd hx hb dL_law_614 ?_
      refine va_sld hx hb hX hbl hbA hS hv1 dL_law_615 ?_
      refine lv_aload_n hx hb dL_law_616 rfl (lv_at hl 0 rfl) ?_
      refine lv_iload_n hx hb dL_law_617 rfl (lv_at hl 3 rfl) ?_
      refine lv_iconst (v := 2) hx hb dL_law_618 (by decide) ?_
      refine lv_iadd hx hb dL_law_619 ?_
      refine va_sld hx hb hX hbl hbA hS hv2 dL_law_620 ?_
      obtain ⟨o1, o2, e1, e2, er, hR⟩ := hSt.2.2.2.2.2.2.2.2.2.2.2.2.2.2.2.2.1 σ tr μ tm hR (xs ((x3 + 1) : Int32).toNatClampNeg) (xs ((x3 + 2) : Int32).toNatClampNeg)
      refine cV_putI X (As := [.int (xs ((x3 + 1) : Int32).toNatClampNeg), .int (xs ((x3 + 2) : Int32).toNatClampNeg)]) (rest := []) (c_X8_rate l E a σ tr (xs ((x3 + 1) : Int32).toNatClampNeg) (xs ((x3 + 2) : Int32).toNatClampNeg) e1) pv_X8_rate ml_L_85 ⟨rfl, rfl⟩ ⟨(Nat.le_of_ble_eq_true rfl), (Nat.le_of_ble_eq_true rfl)⟩ hP hD hS (is := List.range 65) (rngL rfl) nd65 (wX8_g0_0 _ _ _ _) rfl (putL rfl (wX8_adr _ _ _ _ _ _)) rfl hl.1 rfl (Nat.le_of_ble_eq_true rfl) dL_law_621 ⟨(Nat.le_of_ble_eq_true rfl), (Nat.le_of_ble_eq_true rfl)⟩ (fun H locs hP hD hS => ?_)
      refine lv_aload_n hx hb dL_law_624 rfl (lv_at hl 2 rfl) ?_
      refine lv_aload_n hx hb dL_law_625 rfl (lv_at hl 0 rfl) ?_
      refine lv_iload_n hx hb dL_law_626 rfl (lv_at hl 3 rfl) ?_
      refine lv_iconst (v := 1) hx hb dL_law_627 (by decide) ?_
      refine lv_iadd hx hb dL_law_628 ?_
      refine va_sld hx hb hX hbl hbA hS hv1 dL_law_629 ?_
      refine lv_aload_n hx hb dL_law_630 rfl (lv_at hl 0 rfl) ?_
      refine lv_iload_n hx hb dL_law_631 rfl (lv_at hl 3 rfl) ?_
      refine lv_iconst (v := 2) hx hb dL_law_632 (by decide) ?_
      refine lv_iadd hx hb dL_law_633 ?_
      refine va_sld hx hb hX hbl hbA hS hv2 dL_law_634 ?_
      refine cV_putI X (As := [.int (xs ((x3 + 1) : Int32).toNatClampNeg), .int (xs ((x3 + 2) : Int32).toNatClampNeg)]) (rest := [.int o1.1]) (c_X9_rate l E d μ tm (xs ((x3 + 1) : Int32).toNatClampNeg) (xs ((x3 + 2) : Int32).toNatClampNeg) e2) pv_X9_rate ml_L_88 ⟨rfl, rfl⟩ ⟨(Nat.le_of_ble_eq_true rfl), (Nat.le_of_ble_eq_true rfl)⟩ hP hD hS (is := List.range' 65 13) (rngR rfl rfl) nd13 (wX9_g0_0 _ _ _ _) rfl (putR rfl rfl (wX9_adr _ _ _ _ _ _)) rfl hl.1 rfl (Nat.le_of_ble_eq_true rfl) dL_law_635 ⟨(Nat.le_of_ble_eq_true rfl), (Nat.le_of_ble_eq_true rfl)⟩ (fun H locs hP hD hS => ?_)
      refine lv_icmp_eq (tgt := 726) hx hb dL_law_638 (by decide) (fun _ => ?_) (fun c => absurd er c)
      refine lv_iinc (v := x3 + 5) (lv' := [(3, .int (x3 + 5)), (0, .ref b), (1, .ref (a 0)), (2, .ref (d 0))]) hx hb dL_law_726 hl (k := 3) rfl rfl (by decide) rfl (fun ls hl => ?_)
      refine lv_goto (tgt := 18) hx hb dL_law_729 (by decide) ?_
      exact ih (k + 5) (x3 + 5) h5 (by omega) hn5 a d σ o1.2 o2.2.1 o2.2.2 hR H locs hP hD hS ls (lv_sub hl [1, 2, 3, 0] rfl)
    by_cases c18 : sw = 17
    · refine lv_tableIn (off := 611) (tgt := 643) hx hb dL_law_32 (by rw [c18]; decide) (by rw [c18]; decide) (by rw [c18]; rfl) (by decide) ?_
      refine lv_aload_n hx hb dL_law_643 rfl (lv_at hl 1 rfl) ?_
      refine lv_aload_n hx hb dL_law_644 rfl (lv_at hl 0 rfl) ?_
      refine lv_iload_n hx hb dL_law_645 rfl (lv_at hl 3 rfl) ?_
      refine lv_iconst (v := 1) hx hb dL_law_646 (by decide) ?_
      refine lv_iadd hx hb dL_law_647 ?_
      refine va_sld hx hb hX hbl hbA hS hv1 dL_law_648 ?_
      obtain ⟨o1, o2, e1, e2, er, hR⟩ := hSt.2.2.2.2.2.2.2.2.2.2.2.2.2.2.2.2.2.1 σ tr μ tm hR (xs ((x3 + 1) : Int32).toNatClampNeg)
      refine cV_putI X (As := [.int (xs ((x3 + 1) : Int32).toNatClampNeg)]) (rest := []) (c_X8_keep l E a σ tr (xs ((x3 + 1) : Int32).toNatClampNeg) e1) pv_X8_keep ml_L_89 ⟨rfl, rfl⟩ ⟨(Nat.le_of_ble_eq_true rfl), (Nat.le_of_ble_eq_true rfl)⟩ hP hD hS (is := List.range 65) (rngL rfl) nd65 (wX8_g0_0 _ _ _ _) rfl (putL rfl (wX8_adr _ _ _ _ _ _)) rfl hl.1 rfl (Nat.le_of_ble_eq_true rfl) dL_law_649 ⟨(Nat.le_of_ble_eq_true rfl), (Nat.le_of_ble_eq_true rfl)⟩ (fun H locs hP hD hS => ?_)
      refine lv_aload_n hx hb dL_law_652 rfl (lv_at hl 2 rfl) ?_
      refine lv_aload_n hx hb dL_law_653 rfl (lv_at hl 0 rfl) ?_
      refine lv_iload_n hx hb dL_law_654 rfl (lv_at hl 3 rfl) ?_
      refine lv_iconst (v := 1) hx hb dL_law_655 (by decide) ?_
      refine lv_iadd hx hb dL_law_656 ?_
      refine va_sld hx hb hX hbl hbA hS hv1 dL_law_657 ?_
      refine cV_putI X (As := [.int (xs ((x3 + 1) : Int32).toNatClampNeg)]) (rest := [.int o1.1]) (c_X9_keep l E d μ tm (xs ((x3 + 1) : Int32).toNatClampNeg) e2) pv_X9_keep ml_L_92 ⟨rfl, rfl⟩ ⟨(Nat.le_of_ble_eq_true rfl), (Nat.le_of_ble_eq_true rfl)⟩ hP hD hS (is := List.range' 65 13) (rngR rfl rfl) nd13 (wX9_g0_0 _ _ _ _) rfl (putR rfl rfl (wX9_adr _ _ _ _ _ _)) rfl hl.1 rfl (Nat.le_of_ble_eq_true rfl) dL_law_658 ⟨(Nat.le_of_ble_eq_true rfl), (Nat.le_of_ble_eq_true rfl)⟩ (fun H locs hP hD hS => ?_)
      refine lv_icmp_eq (tgt := 726) hx hb dL_law_661 (by decide) (fun _ => ?_) (fun c => absurd er c)
      refine lv_iinc (v := x3 + 5) (lv' := [(3, .int (x3 + 5)), (0, .ref b), (1, .ref (a 0)), (2, .ref (d 0))]) hx hb dL_law_726 hl (k := 3) rfl rfl (by decide) rfl (fun ls hl => ?_)
      refine lv_goto (tgt := 18) hx hb dL_law_729 (by decide) ?_
      exact ih (k + 5) (x3 + 5) h5 (by omega) hn5 a d o1.2 tr o2.2 tm hR H locs hP hD hS ls (lv_sub hl [1, 2, 3, 0] rfl)
    by_cases c19 : sw = 18
    · refine lv_tableIn (off := 634) (tgt := 666) hx hb dL_law_32 (by rw [c19]; decide) (by rw [c19]; decide) (by rw [c19]; rfl) (by decide) ?_
      refine lv_aload_n hx hb dL_law_666 rfl (lv_at hl 1 rfl) ?_
      refine lv_aload_n hx hb dL_law_667 rfl (lv_at hl 0 rfl) ?_
      refine lv_iload_n hx hb dL_law_668 rfl (lv_at hl 3 rfl) ?_
      refine lv_iconst (v := 1) hx hb dL_law_669 (by decide) ?_
      refine lv_iadd hx hb dL_law_670 ?_
      refine va_sld hx hb hX hbl hbA hS hv1 dL_law_671 ?_
      obtain ⟨o1, o2, e1, e2, er, hR⟩ := hSt.2.2.2.2.2.2.2.2.2.2.2.2.2.2.2.2.2.2.1 σ tr μ tm hR (xs ((x3 + 1) : Int32).toNatClampNeg)
      refine cV_putI X (As := [.int (xs ((x3 + 1) : Int32).toNatClampNeg)]) (rest := []) (c_X8_back l E a σ tr (xs ((x3 + 1) : Int32).toNatClampNeg) e1) pv_X8_back ml_L_93 ⟨rfl, rfl⟩ ⟨(Nat.le_of_ble_eq_true rfl), (Nat.le_of_ble_eq_true rfl)⟩ hP hD hS (is := List.range 65) (rngL rfl) nd65 (wX8_g0_0 _ _ _ _) rfl (putL rfl (wX8_adr _ _ _ _ _ _)) rfl hl.1 rfl (Nat.le_of_ble_eq_true rfl) dL_law_672 ⟨(Nat.le_of_ble_eq_true rfl), (Nat.le_of_ble_eq_true rfl)⟩ (fun H locs hP hD hS => ?_)
      refine lv_aload_n hx hb dL_law_675 rfl (lv_at hl 2 rfl) ?_
      refine lv_aload_n hx hb dL_law_676 rfl (lv_at hl 0 rfl) ?_
      refine lv_iload_n hx hb dL_law_677 rfl (lv_at hl 3 rfl) ?_
      refine lv_iconst (v := 1) hx hb dL_law_678 (by decide) ?_
      refine lv_iadd hx hb dL_law_679 ?_
      refine va_sld hx hb hX hbl hbA hS hv1 dL_law_680 ?_
      refine cV_putI X (As := [.int (xs ((x3 + 1) : Int32).toNatClampNeg)]) (rest := [.int o1.1]) (c_X9_back l E d μ tm (xs ((x3 + 1) : Int32).toNatClampNeg) e2) pv_X9_back ml_L_96 ⟨rfl, rfl⟩ ⟨(Nat.le_of_ble_eq_true rfl), (Nat.le_of_ble_eq_true rfl)⟩ hP hD hS (is := List.range' 65 13) (rngR rfl rfl) nd13 (wX9_g0_0 _ _ _ _) rfl (putR rfl rfl (wX9_adr _ _ _ _ _ _)) rfl hl.1 rfl (Nat.le_of_ble_eq_true rfl) dL_law_681 ⟨(Nat.le_of_ble_eq_true rfl), (Nat.le_of_ble_eq_true rfl)⟩ (fun H locs hP hD hS => ?_)
      refine lv_icmp_eq (tgt := 726) hx hb dL_law_684 (by decide) (fun _ => ?_) (fun c => absurd er c)
      refine lv_iinc (v := x3 + 5) (lv' := [(3, .int (x3 + 5)), (0, .ref b), (1, .ref (a 0)), (2, .ref (d 0))]) hx hb dL_law_726 hl (k := 3) rfl rfl (by decide) rfl (fun ls hl => ?_)
      refine lv_goto (tgt := 18) hx hb dL_law_729 (by decide) ?_
      exact ih (k + 5) (x3 + 5) h5 (by omega) hn5 a d o1.2 tr o2.2 tm hR H locs hP hD hS ls (lv_sub hl [1, 2, 3, 0] rfl)
    by_cases c20 : sw = 19
    · refine lv_tableIn (off := 657) (tgt := 689) hx hb dL_law_32 (by rw [c20]; decide) (by rw [c20]; decide) (by rw [c20]; rfl) (by decide) ?_
      refine lv_aload_n hx hb dL_law_689 rfl (lv_at hl 1 rfl) ?_
      refine lv_aload_n hx hb dL_law_690 rfl (lv_at hl 0 rfl) ?_
      refine lv_iload_n hx hb dL_law_691 rfl (lv_at hl 3 rfl) ?_
      refine lv_iconst (v := 1) hx hb dL_law_692 (by decide) ?_
      refine lv_iadd hx hb dL_law_693 ?_
      refine va_sld hx hb hX hbl hbA hS hv1 dL_law_694 ?_
      obtain ⟨o1, o2, e1, e2, er, hR⟩ := hSt.2.2.2.2.2.2.2.2.2.2.2.2.2.2.2.2.2.2.2.1 σ tr μ tm hR (xs ((x3 + 1) : Int32).toNatClampNeg)
      refine cV_roI X (As := [.int (xs ((x3 + 1) : Int32).toNatClampNeg)]) (rest := []) (c_X8_count l E a σ tr (xs ((x3 + 1) : Int32).toNatClampNeg) e1) pv_X8_count ml_L_97 ⟨rfl, rfl⟩ ⟨(Nat.le_of_ble_eq_true rfl), (Nat.le_of_ble_eq_true rfl)⟩ hP hD hS (is := List.range 65) (rngL rfl) nd65 (wX8_g0_0 _ _ _ _) rfl rfl hl.1 rfl (Nat.le_of_ble_eq_true rfl) dL_law_695 ⟨(Nat.le_of_ble_eq_true rfl), (Nat.le_of_ble_eq_true rfl)⟩ (fun H locs hP hS => ?_)
      refine lv_aload_n hx hb dL_law_698 rfl (lv_at hl 2 rfl) ?_
      refine lv_aload_n hx hb dL_law_699 rfl (lv_at hl 0 rfl) ?_
      refine lv_iload_n hx hb dL_law_700 rfl (lv_at hl 3 rfl) ?_
      refine lv_iconst (v := 1) hx hb dL_law_701 (by decide) ?_
      refine lv_iadd hx hb dL_law_702 ?_
      refine va_sld hx hb hX hbl hbA hS hv1 dL_law_703 ?_
      refine cV_roI X (As := [.int (xs ((x3 + 1) : Int32).toNatClampNeg)]) (rest := [.int o1]) (c_X9_count l E d μ tm (xs ((x3 + 1) : Int32).toNatClampNeg) e2) pv_X9_count ml_L_100 ⟨rfl, rfl⟩ ⟨(Nat.le_of_ble_eq_true rfl), (Nat.le_of_ble_eq_true rfl)⟩ hP hD hS (is := List.range' 65 13) (rngR rfl rfl) nd13 (wX9_g0_0 _ _ _ _) rfl rfl hl.1 rfl (Nat.le_of_ble_eq_true rfl) dL_law_704 ⟨(Nat.le_of_ble_eq_true rfl), (Nat.le_of_ble_eq_true rfl)⟩ (fun H locs hP hS => ?_)
      refine lv_icmp_eq (tgt := 726) hx hb dL_law_707 (by decide) (fun _ => ?_) (fun c => absurd er c)
      refine lv_iinc (v := x3 + 5) (lv' := [(3, .int (x3 + 5)), (0, .ref b), (1, .ref (a 0)), (2, .ref (d 0))]) hx hb dL_law_726 hl (k := 3) rfl rfl (by decide) rfl (fun ls hl => ?_)
      refine lv_goto (tgt := 18) hx hb dL_law_729 (by decide) ?_
      exact ih (k + 5) (x3 + 5) h5 (by omega) hn5 a d σ tr μ tm hR H locs hP hD hS ls (lv_sub hl [1, 2, 3, 0] rfl)
    by_cases c21 : sw = 20
    · refine lv_tableIn (off := 680) (tgt := 712) hx hb dL_law_32 (by rw [c21]; decide) (by rw [c21]; decide) (by rw [c21]; rfl) (by decide) ?_
      refine lv_aload_n hx hb dL_law_712 rfl (lv_at hl 1 rfl) ?_
      obtain ⟨o1, o2, e1, e2, er, hR⟩ := hSt.2.2.2.2.2.2.2.2.2.2.2.2.2.2.2.2.2.2.2.2 σ tr μ tm hR
      refine cV_roL X (As := []) (rest := []) (c_X8_trace l E a σ tr e1) pv_X8_trace ml_L_101 ⟨rfl, rfl⟩ ⟨(Nat.le_of_ble_eq_true rfl), (Nat.le_of_ble_eq_true rfl)⟩ hP hD hS (is := List.range 65) (rngL rfl) nd65 (wX8_g0_0 _ _ _ _) rfl rfl hl.1 rfl (Nat.le_of_ble_eq_true rfl) dL_law_713 ⟨(Nat.le_of_ble_eq_true rfl), (Nat.le_of_ble_eq_true rfl)⟩ (fun H locs hP hS => ?_)
      refine lv_aload_n hx hb dL_law_716 rfl (lv_at hl 2 rfl) ?_
      refine cV_roL X (As := []) (rest := [.long o1]) (c_X9_trace l E d μ tm e2) pv_X9_trace ml_L_105 ⟨rfl, rfl⟩ ⟨(Nat.le_of_ble_eq_true rfl), (Nat.le_of_ble_eq_true rfl)⟩ hP hD hS (is := List.range' 65 13) (rngR rfl rfl) nd13 (wX9_g0_0 _ _ _ _) rfl rfl hl.1 rfl (Nat.le_of_ble_eq_true rfl) dL_law_717 ⟨(Nat.le_of_ble_eq_true rfl), (Nat.le_of_ble_eq_true rfl)⟩ (fun H locs hP hS => ?_)
      refine W.lcmp hx hb dL_law_720 ?_
      refine lv_if_eq (tgt := 726) hx hb dL_law_721 (by decide) (fun _ => ?_) (fun c => absurd (by rw [er]; exact lg_self _) c)
      refine lv_iinc (v := x3 + 5) (lv' := [(3, .int (x3 + 5)), (0, .ref b), (1, .ref (a 0)), (2, .ref (d 0))]) hx hb dL_law_726 hl (k := 3) rfl rfl (by decide) rfl (fun ls hl => ?_)
      refine lv_goto (tgt := 18) hx hb dL_law_729 (by decide) ?_
      exact ih (k + 5) (x3 + 5) h5 (by omega) hn5 a d σ tr μ tm hR H locs hP hD hS ls (lv_sub hl [1, 2, 3, 0] rfl)
    refine lv_tableOut (tgt := 726) hx hb dL_law_32 (tsw_out (fun j h1 h2 he => by
      have h3 : j = 0 ∨ j = 1 ∨ j = 2 ∨ j = 3 ∨ j = 4 ∨ j = 5 ∨ j = 6 ∨ j = 7 ∨ j = 8 ∨ j = 9 ∨ j = 10 ∨ j = 11 ∨ j = 12 ∨ j = 13 ∨ j = 14 ∨ j = 15 ∨ j = 16 ∨ j = 17 ∨ j = 18 ∨ j = 19 ∨ j = 20 := by omega
      rcases h3 with rfl | rfl | rfl | rfl | rfl | rfl | rfl | rfl | rfl | rfl | rfl | rfl | rfl | rfl | rfl | rfl | rfl | rfl | rfl | rfl | rfl
      · exact c1 he
      · exact c2 he
      · exact c3 he
      · exact c4 he
      · exact c5 he
      · exact c6 he
      · exact c7 he
      · exact c8 he
      · exact c9 he
      · exact c10 he
      · exact c11 he
      · exact c12 he
      · exact c13 he
      · exact c14 he
      · exact c15 he
      · exact c16 he
      · exact c17 he
      · exact c18 he
      · exact c19 he
      · exact c20 he
      · exact c21 he)) (by decide) ?_
    refine lv_iinc (v := x3 + 5) (lv' := [(3, .int (x3 + 5)), (0, .ref b), (1, .ref (a 0)), (2, .ref (d 0))]) hx hb dL_law_726 hl (k := 3) rfl rfl (by decide) rfl (fun ls hl => ?_)
    refine lv_goto (tgt := 18) hx hb dL_law_729 (by decide) ?_
    exact ih (k + 5) (x3 + 5) h5 (by omega) hn5 a d σ tr μ tm hR H locs hP hD hS ls (lv_sub hl [1, 2, 3, 0] rfl)
