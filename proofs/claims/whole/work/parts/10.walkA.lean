def rm_X1_becomeAsAtFirst : Room := { frames := 0, cells := 0, slots := 0, locals := 0 }
theorem pv_X1_becomeAsAtFirst : PkV RX1 yX1_becomeAsAtFirst cX1_becomeAsAtFirst 2 none 0 := ⟨im_X1_becomeAsAtFirst, se_X1_becomeAsAtFirst, ini_X1, cd_X1_becomeAsAtFirst, by decide +kernel⟩
set_option maxHeartbeats 4000000 in
set_option maxRecDepth 100000 in
theorem c_X1_becomeAsAtFirst (l : Launch) (E : Ev) (a : Nat → Nat) (σ : Sg) {out : Sg} (hf : f_X1_becomeAsAtFirst σ = some out) : MtV l yX1_becomeAsAtFirst (wl yX1_becomeAsAtFirst cX1_becomeAsAtFirst 2 none) rm_X1_becomeAsAtFirst E [.ref (a 0)] (wX1 E a σ) (wX1 E a out) := by
  refine mt_of (QQ := (fun A => va_Qv (fun _ : Unit => True) (fun _ t => QW E (wX1 E a out) t) A)) (by decide) (Nat.le_of_ble_eq_true rfl) (fun p e s m below meth c A ls X hr hP hD hS hl => ?_)
  have hx := X.1.1
  have hb := X.1.2.1
  have hl : lv_has ls 2 [(0, .ref (a 0))] := hl
  obtain ⟨H, hHe⟩ : ∃ H : Heap, H = s.heap := ⟨_, rfl⟩
  obtain ⟨locs, hLe⟩ : ∃ locs : List Loc, locs = [] := ⟨_, rfl⟩
  have hP : va_P E.1 vwCl (wX1 E a σ) H := by rw [hHe]; exact hP
  have hS : va_S A s.heap H locs := by rw [hHe, hLe]; exact hS
  rw [← hLe, show W p l e rm_X1_becomeAsAtFirst s m ([.ref (a 0)] : List Value).toArray below meth c s.heap locs 0 0 = W p l e rm_X1_becomeAsAtFirst s m ([.ref (a 0)] : List Value).toArray below meth c H locs 0 0 from by rw [hHe]]
  refine lv_aload_n hx hb dX1_becomeAsAtFirst_0 rfl (lv_at hl 0 rfl) ?_
  refine lv_iconst (v := 3) hx hb dX1_becomeAsAtFirst_1 (by decide) ?_
  refine r_put X hP hD hS 0 (wX1_g0_0 _ _ _) rfl inc_X1 tyX1 tyX1_ok nmX1 0 (by decide) fl_X1_25 rfl (ty := .int) rfl rfl rfl (Nat.le_of_ble_eq_true rfl) (wX1_s0_0_0 _ _ _ _) dX1_becomeAsAtFirst_2 (fun H locs hP hD hS => ?_)
  refine lv_aload_n hx hb dX1_becomeAsAtFirst_5 rfl (lv_at hl 0 rfl) ?_
  refine lv_iconst (v := 2) hx hb dX1_becomeAsAtFirst_6 (by decide) ?_
  refine r_put X hP hD hS 0 (wX1_g0_0 _ _ _) rfl inc_X1 tyX1 tyX1_ok nmX1 1 (by decide) fl_X1_29 rfl (ty := .int) rfl rfl rfl (Nat.le_of_ble_eq_true rfl) (wX1_s0_0_1 _ _ _ _) dX1_becomeAsAtFirst_7 (fun H locs hP hD hS => ?_)
  refine lv_aload_n hx hb dX1_becomeAsAtFirst_10 rfl (lv_at hl 0 rfl) ?_
  refine lv_iconst (v := 3) hx hb dX1_becomeAsAtFirst_11 (by decide) ?_
  refine r_put X hP hD hS 0 (wX1_g0_0 _ _ _) rfl inc_X1 tyX1 tyX1_ok nmX1 2 (by decide) fl_X1_32 rfl (ty := .int) rfl rfl rfl (Nat.le_of_ble_eq_true rfl) (wX1_s0_0_2 _ _ _ _) dX1_becomeAsAtFirst_12 (fun H locs hP hD hS => ?_)
  refine lv_iconst (v := 0) hx hb dX1_becomeAsAtFirst_15 (by decide) ?_
  refine lv_istore_n (lv' := [(1, .int 0), (0, .ref (a 0))]) hx hb dX1_becomeAsAtFirst_16 rfl hl (by decide) rfl (fun ls hl => ?_)
  have J1 : ∀ (g1 : Sg), j_X1_becomeAsAtFirst_1 g1 = some out → ∀ (H : Heap) (locs : List Loc) (ls : Array Slot), va_P E.1 vwCl (wX1 E a g1) H → va_D A (wX1 E a g1) → va_S A s.heap H locs → lv_has ls 2 [(0, .ref (a 0))] → W p l e rm_X1_becomeAsAtFirst s m ([.ref (a 0)] : List Value).toArray below meth c H locs 0 0 (MQ below (va_Qv (fun _ : Unit => True) (fun _ t => QW E (wX1 E a out) t) A) ([.ref (a 0)] : List Value).toArray s 0 0 A) (F0 m 36 ls []) := by
    intro g1 hf H locs ls hP hD hS hl
    refine lv_aload_n hx hb dX1_becomeAsAtFirst_36 rfl (lv_at hl 0 rfl) ?_
    refine r_get X hP 0 (wX1_g0_0 _ _ _) rfl inc_X1 4 (by decide) fl_X1_18 rfl dX1_becomeAsAtFirst_37 ?_
    refine lv_iconst (v := 0) hx hb dX1_becomeAsAtFirst_40 (by decide) ?_
    refine r_put X hP hD hS 2 (wX1_g0_2 _ _ _) rfl inc_X4 tyX4 tyX4_ok nmX4 0 (by decide) fl_X1_35 rfl (ty := .int) rfl rfl rfl (Nat.le_of_ble_eq_true rfl) (wX1_s0_2_0 _ _ _ _) dX1_becomeAsAtFirst_41 (fun H locs hP hD hS => ?_)
    have ho := Option.some.inj hf
    have hw := congrArg (fun o : Sg => (wX1 E a o)) ho
    exact r_vret X hr hP hS hw dX1_becomeAsAtFirst_44
  have L5 := lc2_ind (o := out) (step := (s_X1_becomeAsAtFirst_17 j_X1_becomeAsAtFirst_1)) (fun x2 g3 => ∀ (H : Heap) (locs : List Loc) (ls : Array Slot), va_P E.1 vwCl (wX1 E a g3) H → va_D A (wX1 E a g3) → va_S A s.heap H locs → lv_has ls 2 [(0, .ref (a 0)), (1, .int x2)] → W p l e rm_X1_becomeAsAtFirst s m ([.ref (a 0)] : List Value).toArray below meth c H locs 0 0 (MQ below (va_Qv (fun _ : Unit => True) (fun _ t => QW E (wX1 E a out) t) A) ([.ref (a 0)] : List Value).toArray s 0 0 A) (F0 m 17 ls [])) (fun x2 g3 k4 ih5 hf H locs ls hP hD hS hl => by
    refine lv_iload_n hx hb dX1_becomeAsAtFirst_17 rfl (lv_at hl 1 rfl) ?_
    refine lv_bipush (v := 16) hx hb dX1_becomeAsAtFirst_18 (by decide) ?_
    refine lv_icmp_ge (tgt := 36) hx hb dX1_becomeAsAtFirst_20 (by decide) (fun c6 => ?_) (fun c6 => ?_)
    · have hf := (if_pos c6).symm.trans hf
      exact J1 g3 hf H locs ls hP hD hS (lv_sub hl [0] rfl)
    · have hf := (if_neg c6).symm.trans hf
      refine lv_aload_n hx hb dX1_becomeAsAtFirst_23 rfl (lv_at hl 0 rfl) ?_
      refine r_get X hP 0 (wX1_g0_0 _ _ _) rfl inc_X1 3 (by decide) fl_X1_9 rfl dX1_becomeAsAtFirst_24 ?_
      refine lv_iload_n hx hb dX1_becomeAsAtFirst_27 rfl (lv_at hl 1 rfl) ?_
      refine lv_iconst (v := 1) hx hb dX1_becomeAsAtFirst_28 (by decide) ?_
      obtain ⟨h7, hf⟩ := chk_in hf
      refine r_iast X hP hD hS 1 (wX1_g0_1 _ _ _) h7 (wX1_t0_1 _ _ _ _ _) dX1_becomeAsAtFirst_29 (fun H locs hP hD hS => ?_)
      refine lv_iinc (v := (x2 + 1)) (lv' := [(1, .int (x2 + 1)), (0, .ref (a 0))]) hx hb dX1_becomeAsAtFirst_30 hl (k := 1) rfl rfl (by decide) rfl (fun ls hl => ?_)
      refine lv_goto (tgt := 17) hx hb dX1_becomeAsAtFirst_33 (by decide) ?_
      exact ih5 (x2 + 1) (sg_st g3 1 (x2 : Int32).toNatClampNeg 1) hf H locs ls hP hD hS (lv_sub hl [1, 0] rfl))
  exact L5 1000 0 (sg_st (sg_st (sg_st σ 0 0 3) 0 1 2) 0 2 3) hf H locs ls hP hD hS (lv_sub hl [1, 0] rfl)
def rm_X4_copyFrom : Room := { frames := 1, cells := 0, slots := 0, locals := 40 }
theorem pv_X4_copyFrom : PkV RX4 yX4_copyFrom cX4_copyFrom 2 none 1 := ⟨im_X4_copyFrom, se_X4_copyFrom, ini_X4, cd_X4_copyFrom, by decide +kernel⟩
set_option maxHeartbeats 4000000 in
set_option maxRecDepth 100000 in
theorem c_X4_copyFrom (l : Launch) (E : Ev) (a : Nat → Nat) (σ : Sg) (b : Nat → Nat) (τ : Sg) {out : Sg} (hf : f_X4_copyFrom σ τ = some out) : MtV l yX4_copyFrom (wl yX4_copyFrom cX4_copyFrom 2 none) rm_X4_copyFrom E [.ref (a 0), .ref (b 0)] (wX4X4 E a σ b τ) (wX4X4 E a out b τ) := by
  refine mt_of (QQ := (fun A => va_Qv (fun _ : Unit => True) (fun _ t => QW E (wX4X4 E a out b τ) t) A)) (by decide) (Nat.le_of_ble_eq_true rfl) (fun p e s m below meth c A ls X hr hP hD hS hl => ?_)
  have hx := X.1.1
  have hb := X.1.2.1
  have hl : lv_has ls 2 [(0, .ref (a 0)), (1, .ref (b 0))] := hl
  obtain ⟨H, hHe⟩ : ∃ H : Heap, H = s.heap := ⟨_, rfl⟩
  obtain ⟨locs, hLe⟩ : ∃ locs : List Loc, locs = [] := ⟨_, rfl⟩
  have hP : va_P E.1 vwCl (wX4X4 E a σ b τ) H := by rw [hHe]; exact hP
  have hS : va_S A s.heap H locs := by rw [hHe, hLe]; exact hS
  rw [← hLe, show W p l e rm_X4_copyFrom s m ([.ref (a 0), .ref (b 0)] : List Value).toArray below meth c s.heap locs 0 0 = W p l e rm_X4_copyFrom s m ([.ref (a 0), .ref (b 0)] : List Value).toArray below meth c H locs 0 0 from by rw [hHe]]
  refine lv_aload_n hx hb dX4_copyFrom_0 rfl (lv_at hl 0 rfl) ?_
  refine lv_aload_n hx hb dX4_copyFrom_1 rfl (lv_at hl 1 rfl) ?_
  refine r_get X hP 3 (wX4X4_g1_0 _ _ _ _ _) rfl inc_X4 0 (by decide) fl_X4_9 rfl dX4_copyFrom_2 ?_
  refine r_put X hP hD hS 0 (wX4X4_g0_0 _ _ _ _ _) rfl inc_X4 tyX4 tyX4_ok nmX4 0 (by decide) fl_X4_9 rfl (ty := .int) rfl rfl rfl (Nat.le_of_ble_eq_true rfl) (wX4X4_s0_0_0 _ _ _ _ _ _) dX4_copyFrom_5 (fun H locs hP hD hS => ?_)
  refine lv_aload_n hx hb dX4_copyFrom_8 rfl (lv_at hl 1 rfl) ?_
  refine r_get X hP 3 (wX4X4_g1_0 _ _ _ _ _) rfl inc_X4 1 (by decide) fl_X4_15 rfl dX4_copyFrom_9 ?_
  refine lv_iconst (v := 0) hx hb dX4_copyFrom_12 (by decide) ?_
  refine lv_aload_n hx hb dX4_copyFrom_13 rfl (lv_at hl 0 rfl) ?_
  refine r_get X hP 0 (wX4X4_g0_0 _ _ _ _ _) rfl inc_X4 1 (by decide) fl_X4_15 rfl dX4_copyFrom_14 ?_
  refine lv_iconst (v := 0) hx hb dX4_copyFrom_17 (by decide) ?_
  refine lv_bipush (v := 6) hx hb dX4_copyFrom_18 (by decide) ?_
  obtain ⟨h1, hf⟩ := ccp_in hf
  refine r_copy X hl.1 hP hD hS ml_X4_26 nv_arraycopy sm_arraycopy ini_J10 4 1 (wX4X4_g1_1 _ _ _ _ _) (wX4X4_g0_1 _ _ _ _ _) h1 (Nat.le_of_ble_eq_true rfl) (Nat.le_of_ble_eq_true rfl) (wX4X4_r0_1 _ _ _ _ _ _) dX4_copyFrom_20 (fun H locs hP hD hS => ?_)
  refine lv_aload_n hx hb dX4_copyFrom_23 rfl (lv_at hl 1 rfl) ?_
  refine r_get X hP 3 (wX4X4_g1_0 _ _ _ _ _) rfl inc_X4 2 (by decide) fl_X4_19 rfl dX4_copyFrom_24 ?_
  refine lv_iconst (v := 0) hx hb dX4_copyFrom_27 (by decide) ?_
  refine lv_aload_n hx hb dX4_copyFrom_28 rfl (lv_at hl 0 rfl) ?_
  refine r_get X hP 0 (wX4X4_g0_0 _ _ _ _ _) rfl inc_X4 2 (by decide) fl_X4_19 rfl dX4_copyFrom_29 ?_
  refine lv_iconst (v := 0) hx hb dX4_copyFrom_32 (by decide) ?_
  refine lv_bipush (v := 6) hx hb dX4_copyFrom_33 (by decide) ?_
  obtain ⟨h2, hf⟩ := ccp_in hf
  refine r_copy X hl.1 hP hD hS ml_X4_26 nv_arraycopy sm_arraycopy ini_J10 5 2 (wX4X4_g1_2 _ _ _ _ _) (wX4X4_g0_2 _ _ _ _ _) h2 (Nat.le_of_ble_eq_true rfl) (Nat.le_of_ble_eq_true rfl) (wX4X4_r0_2 _ _ _ _ _ _) dX4_copyFrom_35 (fun H locs hP hD hS => ?_)
  have ho := Option.some.inj hf
  have hw := congrArg (fun o : Sg => (wX4X4 E a o b τ)) ho
  exact r_vret X hr hP hS hw dX4_copyFrom_38
def rm_X1_copyFrom : Room := { frames := 2, cells := 0, slots := 0, locals := 61 }
theorem pv_X1_copyFrom : PkV RX1 yX1_copyFrom cX1_copyFrom 2 none 1 := ⟨im_X1_copyFrom, se_X1_copyFrom, ini_X1, cd_X1_copyFrom, by decide +kernel⟩
set_option maxHeartbeats 4000000 in
set_option maxRecDepth 100000 in
theorem c_X1_copyFrom (l : Launch) (E : Ev) (a : Nat → Nat) (σ : Sg) (b : Nat → Nat) (τ : Sg) {out : Sg} (hf : f_X1_copyFrom σ τ = some out) : MtV l yX1_copyFrom (wl yX1_copyFrom cX1_copyFrom 2 none) rm_X1_copyFrom E [.ref (a 0), .ref (b 0)] (wX1X1 E a σ b τ) (wX1X1 E a out b τ) := by
  refine mt_of (QQ := (fun A => va_Qv (fun _ : Unit => True) (fun _ t => QW E (wX1X1 E a out b τ) t) A)) (by decide) (Nat.le_of_ble_eq_true rfl) (fun p e s m below meth c A ls X hr hP hD hS hl => ?_)
  have hx := X.1.1
  have hb := X.1.2.1
  have hl : lv_has ls 2 [(0, .ref (a 0)), (1, .ref (b 0))] := hl
  obtain ⟨H, hHe⟩ : ∃ H : Heap, H = s.heap := ⟨_, rfl⟩
  obtain ⟨locs, hLe⟩ : ∃ locs : List Loc, locs = [] := ⟨_, rfl⟩
  have hP : va_P E.1 vwCl (wX1X1 E a σ b τ) H := by rw [hHe]; exact hP
  have hS : va_S A s.heap H locs := by rw [hHe, hLe]; exact hS
  rw [← hLe, show W p l e rm_X1_copyFrom s m ([.ref (a 0), .ref (b 0)] : List Value).toArray below meth c s.heap locs 0 0 = W p l e rm_X1_copyFrom s m ([.ref (a 0), .ref (b 0)] : List Value).toArray below meth c H locs 0 0 from by rw [hHe]]
  refine lv_aload_n hx hb dX1_copyFrom_0 rfl (lv_at hl 0 rfl) ?_
  refine lv_aload_n hx hb dX1_copyFrom_1 rfl (lv_at hl 1 rfl) ?_
  refine r_get X hP 5 (wX1X1_g1_0 _ _ _ _ _) rfl inc_X1 0 (by decide) fl_X1_25 rfl dX1_copyFrom_2 ?_
  refine r_put X hP hD hS 0 (wX1X1_g0_0 _ _ _ _ _) rfl inc_X1 tyX1 tyX1_ok nmX1 0 (by decide) fl_X1_25 rfl (ty := .int) rfl rfl rfl (Nat.le_of_ble_eq_true rfl) (wX1X1_s0_0_0 _ _ _ _ _ _) dX1_copyFrom_5 (fun H locs hP hD hS => ?_)
  refine lv_aload_n hx hb dX1_copyFrom_8 rfl (lv_at hl 0 rfl) ?_
  refine lv_aload_n hx hb dX1_copyFrom_9 rfl (lv_at hl 1 rfl) ?_
  refine r_get X hP 5 (wX1X1_g1_0 _ _ _ _ _) rfl inc_X1 1 (by decide) fl_X1_29 rfl dX1_copyFrom_10 ?_
  refine r_put X hP hD hS 0 (wX1X1_g0_0 _ _ _ _ _) rfl inc_X1 tyX1 tyX1_ok nmX1 1 (by decide) fl_X1_29 rfl (ty := .int) rfl rfl rfl (Nat.le_of_ble_eq_true rfl) (wX1X1_s0_0_1 _ _ _ _ _ _) dX1_copyFrom_13 (fun H locs hP hD hS => ?_)
  refine lv_aload_n hx hb dX1_copyFrom_16 rfl (lv_at hl 0 rfl) ?_
  refine lv_aload_n hx hb dX1_copyFrom_17 rfl (lv_at hl 1 rfl) ?_
  refine r_get X hP 5 (wX1X1_g1_0 _ _ _ _ _) rfl inc_X1 2 (by decide) fl_X1_32 rfl dX1_copyFrom_18 ?_
  refine r_put X hP hD hS 0 (wX1X1_g0_0 _ _ _ _ _) rfl inc_X1 tyX1 tyX1_ok nmX1 2 (by decide) fl_X1_32 rfl (ty := .int) rfl rfl rfl (Nat.le_of_ble_eq_true rfl) (wX1X1_s0_0_2 _ _ _ _ _ _) dX1_copyFrom_21 (fun H locs hP hD hS => ?_)
  refine lv_aload_n hx hb dX1_copyFrom_24 rfl (lv_at hl 1 rfl) ?_
  refine r_get X hP 5 (wX1X1_g1_0 _ _ _ _ _) rfl inc_X1 3 (by decide) fl_X1_9 rfl dX1_copyFrom_25 ?_
  refine lv_iconst (v := 0) hx hb dX1_copyFrom_28 (by decide) ?_
  refine lv_aload_n hx hb dX1_copyFrom_29 rfl (lv_at hl 0 rfl) ?_
  refine r_get X hP 0 (wX1X1_g0_0 _ _ _ _ _) rfl inc_X1 3 (by decide) fl_X1_9 rfl dX1_copyFrom_30 ?_
  refine lv_iconst (v := 0) hx hb dX1_copyFrom_33 (by decide) ?_
  refine lv_bipush (v := 16) hx hb dX1_copyFrom_34 (by decide) ?_
  obtain ⟨h1, hf⟩ := ccp_in hf
  refine r_copy X hl.1 hP hD hS ml_X1_38 nv_arraycopy sm_arraycopy ini_J10 6 1 (wX1X1_g1_1 _ _ _ _ _) (wX1X1_g0_1 _ _ _ _ _) h1 (Nat.le_of_ble_eq_true rfl) (Nat.le_of_ble_eq_true rfl) (wX1X1_r0_1 _ _ _ _ _ _) dX1_copyFrom_36 (fun H locs hP hD hS => ?_)
  refine lv_aload_n hx hb dX1_copyFrom_39 rfl (lv_at hl 0 rfl) ?_
  refine r_get X hP 0 (wX1X1_g0_0 _ _ _ _ _) rfl inc_X1 4 (by decide) fl_X1_18 rfl dX1_copyFrom_40 ?_
  refine lv_aload_n hx hb dX1_copyFrom_43 rfl (lv_at hl 1 rfl) ?_
  refine r_get X hP 5 (wX1X1_g1_0 _ _ _ _ _) rfl inc_X1 4 (by decide) fl_X1_18 rfl dX1_copyFrom_44 ?_
  obtain ⟨z2, hz2, hf⟩ := obd hf
  refine cV_putV X (As := [.ref (b 2)]) (rest := []) (c_X4_copyFrom l E (sg_off a 2) (sg_off (sg_ar (sg_st (sg_st (sg_st σ 0 0 (τ 0 0)) 0 1 (τ 0 1)) 0 2 (τ 0 2)) 1 (va_cpy (τ 1) ((sg_st (sg_st (sg_st σ 0 0 (τ 0 0)) 0 1 (τ 0 1)) 0 2 (τ 0 2)) 1) (0 : Int32).toNatClampNeg (0 : Int32).toNatClampNeg (16 : Int32).toNatClampNeg)) 2) (sg_off b 2) (sg_off τ 2) hz2) pv_X4_copyFrom ml_X1_44 ⟨rfl, rfl⟩ ⟨(Nat.le_of_ble_eq_true rfl), (Nat.le_of_ble_eq_true rfl)⟩ hP hD hS (wX1X1_b_0_2_1_2_X4X4 _ _ _ _ _) rfl (wX4X4_g0_0 _ _ _ _ _) rfl (wX1X1_p_0_2_1_2_X4X4 _ _ _ _ _ _) rfl hl.1 rfl (Nat.le_of_ble_eq_true rfl) dX1_copyFrom_47 ⟨Nat.le_refl _, Nat.le_refl _⟩ (fun H locs hP hD hS => ?_)
  have ho := Option.some.inj hf
  have hw := congrArg (fun o : Sg => (wX1X1 E a o b τ)) ho
  exact r_vret X hr hP hS hw dX1_copyFrom_50
def rm_X1_setWorth : Room := { frames := 0, cells := 0, slots := 0, locals := 0 }
theorem pv_X1_setWorth : PkV RX1 yX1_setWorth cX1_setWorth 3 none 2 := ⟨im_X1_setWorth, se_X1_setWorth, ini_X1, cd_X1_setWorth, by decide +kernel⟩
set_option maxHeartbeats 4000000 in
set_option maxRecDepth 100000 in
theorem c_X1_setWorth (l : Launch) (E : Ev) (a : Nat → Nat) (σ : Sg) (p1 : Int32) (p2 : Int32) {out : Sg} (hf : f_X1_setWorth σ p1 p2 = some out) : MtV l yX1_setWorth (wl yX1_setWorth cX1_setWorth 3 none) rm_X1_setWorth E [.ref (a 0), .int p1, .int p2] (wX1 E a σ) (wX1 E a out) := by
  refine mt_of (QQ := (fun A => va_Qv (fun _ : Unit => True) (fun _ t => QW E (wX1 E a out) t) A)) (by decide) (Nat.le_of_ble_eq_true rfl) (fun p e s m below meth c A ls X hr hP hD hS hl => ?_)
  have hx := X.1.1
  have hb := X.1.2.1
  have hl : lv_has ls 3 [(0, .ref (a 0)), (1, .int p1), (2, .int p2)] := hl
  obtain ⟨H, hHe⟩ : ∃ H : Heap, H = s.heap := ⟨_, rfl⟩
  obtain ⟨locs, hLe⟩ : ∃ locs : List Loc, locs = [] := ⟨_, rfl⟩
  have hP : va_P E.1 vwCl (wX1 E a σ) H := by rw [hHe]; exact hP
  have hS : va_S A s.heap H locs := by rw [hHe, hLe]; exact hS
  rw [← hLe, show W p l e rm_X1_setWorth s m ([.ref (a 0), .int p1, .int p2] : List Value).toArray below meth c s.heap locs 0 0 = W p l e rm_X1_setWorth s m ([.ref (a 0), .int p1, .int p2] : List Value).toArray below meth c H locs 0 0 from by rw [hHe]]
  refine lv_iload_n hx hb dX1_setWorth_0 rfl (lv_at hl 1 rfl) ?_
  refine lv_if_lt (tgt := 17) hx hb dX1_setWorth_1 (by decide) (fun c1 => ?_) (fun c1 => ?_)
  · have hf := (if_pos c1).symm.trans hf
    have ho := Option.some.inj hf
    have hw := congrArg (fun o : Sg => (wX1 E a o)) ho
    exact r_vret X hr hP hS hw dX1_setWorth_17
  · have hf := (if_neg c1).symm.trans hf
    refine lv_iload_n hx hb dX1_setWorth_4 rfl (lv_at hl 1 rfl) ?_
    refine lv_bipush (v := 16) hx hb dX1_setWorth_5 (by decide) ?_
    refine lv_icmp_ge (tgt := 17) hx hb dX1_setWorth_7 (by decide) (fun c2 => ?_) (fun c2 => ?_)
    · have hf := (if_pos c2).symm.trans hf
      have ho := Option.some.inj hf
      have hw := congrArg (fun o : Sg => (wX1 E a o)) ho
      exact r_vret X hr hP hS hw dX1_setWorth_17
    · have hf := (if_neg c2).symm.trans hf
      refine lv_aload_n hx hb dX1_setWorth_10 rfl (lv_at hl 0 rfl) ?_
      refine r_get X hP 0 (wX1_g0_0 _ _ _) rfl inc_X1 3 (by decide) fl_X1_9 rfl dX1_setWorth_11 ?_
      refine lv_iload_n hx hb dX1_setWorth_14 rfl (lv_at hl 1 rfl) ?_
      refine lv_iload_n hx hb dX1_setWorth_15 rfl (lv_at hl 2 rfl) ?_
      obtain ⟨h3, hf⟩ := chk_in hf
      refine r_iast X hP hD hS 1 (wX1_g0_1 _ _ _) h3 (wX1_t0_1 _ _ _ _ _) dX1_setWorth_16 (fun H locs hP hD hS => ?_)
      have ho := Option.some.inj hf
      have hw := congrArg (fun o : Sg => (wX1 E a o)) ho
      exact r_vret X hr hP hS hw dX1_setWorth_17
def rm_X2_addFold : Room := { frames := 0, cells := 0, slots := 0, locals := 0 }
theorem pv_X2_addFold : PkV RX2 yX2_addFold cX2_addFold 2 none 1 := ⟨im_X2_addFold, se_X2_addFold, ini_X2, cd_X2_addFold, by decide +kernel⟩
set_option maxHeartbeats 4000000 in
set_option maxRecDepth 100000 in
theorem c_X2_addFold (l : Launch) (E : Ev) (a : Nat → Nat) (σ : Sg) (p1 : Int32) {out : Sg} (hf : f_X2_addFold σ p1 = some out) : MtV l yX2_addFold (wl yX2_addFold cX2_addFold 2 none) rm_X2_addFold E [.ref (a 0), .int p1] (wX2 E a σ) (wX2 E a out) := by
  refine mt_of (QQ := (fun A => va_Qv (fun _ : Unit => True) (fun _ t => QW E (wX2 E a out) t) A)) (by decide) (Nat.le_of_ble_eq_true rfl) (fun p e s m below meth c A ls X hr hP hD hS hl => ?_)
  have hx := X.1.1
  have hb := X.1.2.1
  have hl : lv_has ls 2 [(0, .ref (a 0)), (1, .int p1)] := hl
  obtain ⟨H, hHe⟩ : ∃ H : Heap, H = s.heap := ⟨_, rfl⟩
  obtain ⟨locs, hLe⟩ : ∃ locs : List Loc, locs = [] := ⟨_, rfl⟩
  have hP : va_P E.1 vwCl (wX2 E a σ) H := by rw [hHe]; exact hP
  have hS : va_S A s.heap H locs := by rw [hHe, hLe]; exact hS
  rw [← hLe, show W p l e rm_X2_addFold s m ([.ref (a 0), .int p1] : List Value).toArray below meth c s.heap locs 0 0 = W p l e rm_X2_addFold s m ([.ref (a 0), .int p1] : List Value).toArray below meth c H locs 0 0 from by rw [hHe]]
  refine lv_aload_n hx hb dX2_addFold_0 rfl (lv_at hl 0 rfl) ?_
  refine r_get X hP 0 (wX2_g0_0 _ _ _) rfl inc_X2 2 (by decide) fl_X2_19 rfl dX2_addFold_1 ?_
  refine lv_bipush (v := 6) hx hb dX2_addFold_4 (by decide) ?_
  refine lv_icmp_ge (tgt := 29) hx hb dX2_addFold_6 (by decide) (fun c1 => ?_) (fun c1 => ?_)
  · have hf := (if_pos c1).symm.trans hf
    have ho := Option.some.inj hf
    have hw := congrArg (fun o : Sg => (wX2 E a o)) ho
    exact r_vret X hr hP hS hw dX2_addFold_29
  · have hf := (if_neg c1).symm.trans hf
    refine lv_aload_n hx hb dX2_addFold_9 rfl (lv_at hl 0 rfl) ?_
    refine r_get X hP 0 (wX2_g0_0 _ _ _) rfl inc_X2 3 (by decide) fl_X2_22 rfl dX2_addFold_10 ?_
    refine lv_aload_n hx hb dX2_addFold_13 rfl (lv_at hl 0 rfl) ?_
    refine r_get X hP 0 (wX2_g0_0 _ _ _) rfl inc_X2 2 (by decide) fl_X2_19 rfl dX2_addFold_14 ?_
    refine lv_iload_n hx hb dX2_addFold_17 rfl (lv_at hl 1 rfl) ?_
    obtain ⟨h2, hf⟩ := chk_in hf
    refine r_iast X hP hD hS 1 (wX2_g0_1 _ _ _) h2 (wX2_t0_1 _ _ _ _ _) dX2_addFold_18 (fun H locs hP hD hS => ?_)
    refine lv_aload_n hx hb dX2_addFold_19 rfl (lv_at hl 0 rfl) ?_
    refine lv_dup hx hb dX2_addFold_20 rfl ?_
    refine r_get X hP 0 (wX2_g0_0 _ _ _) rfl inc_X2 2 (by decide) fl_X2_19 rfl dX2_addFold_21 ?_
    refine lv_iconst (v := 1) hx hb dX2_addFold_24 (by decide) ?_
    refine lv_iadd hx hb dX2_addFold_25 ?_
    refine r_put X hP hD hS 0 (wX2_g0_0 _ _ _) rfl inc_X2 tyX2 tyX2_ok nmX2 2 (by decide) fl_X2_19 rfl (ty := .int) rfl rfl rfl (Nat.le_of_ble_eq_true rfl) (wX2_s0_0_2 _ _ _ _) dX2_addFold_26 (fun H locs hP hD hS => ?_)
    have ho := Option.some.inj hf
    have hw := congrArg (fun o : Sg => (wX2 E a o)) ho
    exact r_vret X hr hP hS hw dX2_addFold_29
def rm_X2_begin : Room := { frames := 0, cells := 0, slots := 0, locals := 0 }
theorem pv_X2_begin : PkV RX2 yX2_begin cX2_begin 2 none 0 := ⟨im_X2_begin, se_X2_begin, ini_X2, cd_X2_begin, by decide +kernel⟩
set_option maxHeartbeats 4000000 in
set_option maxRecDepth 100000 in
theorem c_X2_begin (l : Launch) (E : Ev) (a : Nat → Nat) (σ : Sg) {out : Sg} (hf : f_X2_begin σ = some out) : MtV l yX2_begin (wl yX2_begin cX2_begin 2 none) rm_X2_begin E [.ref (a 0)] (wX2 E a σ) (wX2 E a out) := by
  refine mt_of (QQ := (fun A => va_Qv (fun _ : Unit => True) (fun _ t => QW E (wX2 E a out) t) A)) (by decide) (Nat.le_of_ble_eq_true rfl) (fun p e s m below meth c A ls X hr hP hD hS hl => ?_)
  have hx := X.1.1
  have hb := X.1.2.1
  have hl : lv_has ls 2 [(0, .ref (a 0))] := hl
  obtain ⟨H, hHe⟩ : ∃ H : Heap, H = s.heap := ⟨_, rfl⟩
  obtain ⟨locs, hLe⟩ : ∃ locs : List Loc, locs = [] := ⟨_, rfl⟩
  have hP : va_P E.1 vwCl (wX2 E a σ) H := by rw [hHe]; exact hP
  have hS : va_S A s.heap H locs := by rw [hHe, hLe]; exact hS
  rw [← hLe, show W p l e rm_X2_begin s m ([.ref (a 0)] : List Value).toArray below meth c s.heap locs 0 0 = W p l e rm_X2_begin s m ([.ref (a 0)] : List Value).toArray below meth c H locs 0 0 from by rw [hHe]]
  refine lv_aload_n hx hb dX2_begin_0 rfl (lv_at hl 0 rfl) ?_
  refine lv_iconst (v := 0) hx hb dX2_begin_1 (by decide) ?_
  refine r_put X hP hD hS 0 (wX2_g0_0 _ _ _) rfl inc_X2 tyX2 tyX2_ok nmX2 1 (by decide) fl_X2_15 rfl (ty := .int) rfl rfl rfl (Nat.le_of_ble_eq_true rfl) (wX2_s0_0_1 _ _ _ _) dX2_begin_2 (fun H locs hP hD hS => ?_)
  refine lv_aload_n hx hb dX2_begin_5 rfl (lv_at hl 0 rfl) ?_
  refine lv_iconst (v := 0) hx hb dX2_begin_6 (by decide) ?_
  refine r_put X hP hD hS 0 (wX2_g0_0 _ _ _) rfl inc_X2 tyX2 tyX2_ok nmX2 2 (by decide) fl_X2_19 rfl (ty := .int) rfl rfl rfl (Nat.le_of_ble_eq_true rfl) (wX2_s0_0_2 _ _ _ _) dX2_begin_7 (fun H locs hP hD hS => ?_)
  refine lv_iconst (v := 0) hx hb dX2_begin_10 (by decide) ?_
  refine lv_istore_n (lv' := [(1, .int 0), (0, .ref (a 0))]) hx hb dX2_begin_11 rfl hl (by decide) rfl (fun ls hl => ?_)
  have L3 := lc2_ind (o := out) (step := (s_X2_begin_12)) (fun x1 g2 => ∀ (H : Heap) (locs : List Loc) (ls : Array Slot), va_P E.1 vwCl (wX2 E a g2) H → va_D A (wX2 E a g2) → va_S A s.heap H locs → lv_has ls 2 [(0, .ref (a 0)), (1, .int x1)] → W p l e rm_X2_begin s m ([.ref (a 0)] : List Value).toArray below meth c H locs 0 0 (MQ below (va_Qv (fun _ : Unit => True) (fun _ t => QW E (wX2 E a out) t) A) ([.ref (a 0)] : List Value).toArray s 0 0 A) (F0 m 12 ls [])) (fun x1 g2 k3 ih3 hf H locs ls hP hD hS hl => by
    refine lv_iload_n hx hb dX2_begin_12 rfl (lv_at hl 1 rfl) ?_
    refine lv_bipush (v := 24) hx hb dX2_begin_13 (by decide) ?_
    refine lv_icmp_ge (tgt := 31) hx hb dX2_begin_15 (by decide) (fun c4 => ?_) (fun c4 => ?_)
    · have hf := (if_pos c4).symm.trans hf
      have ho := Option.some.inj hf
      have hw := congrArg (fun o : Sg => (wX2 E a o)) ho
      exact r_vret X hr hP hS hw dX2_begin_31
    · have hf := (if_neg c4).symm.trans hf
      refine lv_aload_n hx hb dX2_begin_18 rfl (lv_at hl 0 rfl) ?_
      refine r_get X hP 0 (wX2_g0_0 _ _ _) rfl inc_X2 4 (by decide) fl_X2_26 rfl dX2_begin_19 ?_
      refine lv_iload_n hx hb dX2_begin_22 rfl (lv_at hl 1 rfl) ?_
      refine lv_iconst (v := 0) hx hb dX2_begin_23 (by decide) ?_
      obtain ⟨h5, hf⟩ := chk_in hf
      refine r_iast X hP hD hS 2 (wX2_g0_2 _ _ _) h5 (wX2_t0_2 _ _ _ _ _) dX2_begin_24 (fun H locs hP hD hS => ?_)
      refine lv_iinc (v := (x1 + 1)) (lv' := [(1, .int (x1 + 1)), (0, .ref (a 0))]) hx hb dX2_begin_25 hl (k := 1) rfl rfl (by decide) rfl (fun ls hl => ?_)
      refine lv_goto (tgt := 12) hx hb dX2_begin_28 (by decide) ?_
      exact ih3 (x1 + 1) (sg_st g2 2 (x1 : Int32).toNatClampNeg 0) hf H locs ls hP hD hS (lv_sub hl [1, 0] rfl))
  exact L3 1000 0 (sg_st (sg_st σ 0 1 0) 0 2 0) hf H locs ls hP hD hS (lv_sub hl [1, 0] rfl)
def rm_X2_copyFrom : Room := { frames := 1, cells := 0, slots := 0, locals := 40 }
theorem pv_X2_copyFrom : PkV RX2 yX2_copyFrom cX2_copyFrom 2 none 1 := ⟨im_X2_copyFrom, se_X2_copyFrom, ini_X2, cd_X2_copyFrom, by decide +kernel⟩
set_option maxHeartbeats 4000000 in
set_option maxRecDepth 100000 in
theorem c_X2_copyFrom (l : Launch) (E : Ev) (a : Nat → Nat) (σ : Sg) (b : Nat → Nat) (τ : Sg) {out : Sg} (hf : f_X2_copyFrom σ τ = some out) : MtV l yX2_copyFrom (wl yX2_copyFrom cX2_copyFrom 2 none) rm_X2_copyFrom E [.ref (a 0), .ref (b 0)] (wX2X2 E a σ b τ) (wX2X2 E a out b τ) := by
  refine mt_of (QQ := (fun A => va_Qv (fun _ : Unit => True) (fun _ t => QW E (wX2X2 E a out b τ) t) A)) (by decide) (Nat.le_of_ble_eq_true rfl) (fun p e s m below meth c A ls X hr hP hD hS hl => ?_)
  have hx := X.1.1
  have hb := X.1.2.1
  have hl : lv_has ls 2 [(0, .ref (a 0)), (1, .ref (b 0))] := hl
  obtain ⟨H, hHe⟩ : ∃ H : Heap, H = s.heap := ⟨_, rfl⟩
  obtain ⟨locs, hLe⟩ : ∃ locs : List Loc, locs = [] := ⟨_, rfl⟩
  have hP : va_P E.1 vwCl (wX2X2 E a σ b τ) H := by rw [hHe]; exact hP
  have hS : va_S A s.heap H locs := by rw [hHe, hLe]; exact hS
  rw [← hLe, show W p l e rm_X2_copyFrom s m ([.ref (a 0), .ref (b 0)] : List Value).toArray below meth c s.heap locs 0 0 = W p l e rm_X2_copyFrom s m ([.ref (a 0), .ref (b 0)] : List Value).toArray below meth c H locs 0 0 from by rw [hHe]]
  refine lv_aload_n hx hb dX2_copyFrom_0 rfl (lv_at hl 0 rfl) ?_
  refine lv_aload_n hx hb dX2_copyFrom_1 rfl (lv_at hl 1 rfl) ?_
  refine r_get X hP 3 (wX2X2_g1_0 _ _ _ _ _) rfl inc_X2 1 (by decide) fl_X2_15 rfl dX2_copyFrom_2 ?_
  refine r_put X hP hD hS 0 (wX2X2_g0_0 _ _ _ _ _) rfl inc_X2 tyX2 tyX2_ok nmX2 1 (by decide) fl_X2_15 rfl (ty := .int) rfl rfl rfl (Nat.le_of_ble_eq_true rfl) (wX2X2_s0_0_1 _ _ _ _ _ _) dX2_copyFrom_5 (fun H locs hP hD hS => ?_)
  refine lv_aload_n hx hb dX2_copyFrom_8 rfl (lv_at hl 0 rfl) ?_
  refine lv_aload_n hx hb dX2_copyFrom_9 rfl (lv_at hl 1 rfl) ?_
  refine r_get X hP 3 (wX2X2_g1_0 _ _ _ _ _) rfl inc_X2 2 (by decide) fl_X2_19 rfl dX2_copyFrom_10 ?_
  refine r_put X hP hD hS 0 (wX2X2_g0_0 _ _ _ _ _) rfl inc_X2 tyX2 tyX2_ok nmX2 2 (by decide) fl_X2_19 rfl (ty := .int) rfl rfl rfl (Nat.le_of_ble_eq_true rfl) (wX2X2_s0_0_2 _ _ _ _ _ _) dX2_copyFrom_13 (fun H locs hP hD hS => ?_)
  refine lv_aload_n hx hb dX2_copyFrom_16 rfl (lv_at hl 1 rfl) ?_
  refine r_get X hP 3 (wX2X2_g1_0 _ _ _ _ _) rfl inc_X2 3 (by decide) fl_X2_22 rfl dX2_copyFrom_17 ?_
  refine lv_iconst (v := 0) hx hb dX2_copyFrom_20 (by decide) ?_
  refine lv_aload_n hx hb dX2_copyFrom_21 rfl (lv_at hl 0 rfl) ?_
  refine r_get X hP 0 (wX2X2_g0_0 _ _ _ _ _) rfl inc_X2 3 (by decide) fl_X2_22 rfl dX2_copyFrom_22 ?_
  refine lv_iconst (v := 0) hx hb dX2_copyFrom_25 (by decide) ?_
  refine lv_bipush (v := 6) hx hb dX2_copyFrom_26 (by decide) ?_
  obtain ⟨h1, hf⟩ := ccp_in hf
  refine r_copy X hl.1 hP hD hS ml_X2_34 nv_arraycopy sm_arraycopy ini_J10 4 1 (wX2X2_g1_1 _ _ _ _ _) (wX2X2_g0_1 _ _ _ _ _) h1 (Nat.le_of_ble_eq_true rfl) (Nat.le_of_ble_eq_true rfl) (wX2X2_r0_1 _ _ _ _ _ _) dX2_copyFrom_28 (fun H locs hP hD hS => ?_)
  refine lv_aload_n hx hb dX2_copyFrom_31 rfl (lv_at hl 1 rfl) ?_
  refine r_get X hP 3 (wX2X2_g1_0 _ _ _ _ _) rfl inc_X2 4 (by decide) fl_X2_26 rfl dX2_copyFrom_32 ?_
  refine lv_iconst (v := 0) hx hb dX2_copyFrom_35 (by decide) ?_
  refine lv_aload_n hx hb dX2_copyFrom_36 rfl (lv_at hl 0 rfl) ?_
  refine r_get X hP 0 (wX2X2_g0_0 _ _ _ _ _) rfl inc_X2 4 (by decide) fl_X2_26 rfl dX2_copyFrom_37 ?_
  refine lv_iconst (v := 0) hx hb dX2_copyFrom_40 (by decide) ?_
  refine lv_bipush (v := 24) hx hb dX2_copyFrom_41 (by decide) ?_
  obtain ⟨h2, hf⟩ := ccp_in hf
  refine r_copy X hl.1 hP hD hS ml_X2_34 nv_arraycopy sm_arraycopy ini_J10 5 2 (wX2X2_g1_2 _ _ _ _ _) (wX2X2_g0_2 _ _ _ _ _) h2 (Nat.le_of_ble_eq_true rfl) (Nat.le_of_ble_eq_true rfl) (wX2X2_r0_2 _ _ _ _ _ _) dX2_copyFrom_43 (fun H locs hP hD hS => ?_)
  have ho := Option.some.inj hf
  have hw := congrArg (fun o : Sg => (wX2X2 E a o b τ)) ho
  exact r_vret X hr hP hS hw dX2_copyFrom_46
def rm_X2_nextDay : Room := { frames := 1, cells := 0, slots := 0, locals := 40 }
theorem pv_X2_nextDay : PkV RX2 yX2_nextDay cX2_nextDay 2 none 1 := ⟨im_X2_nextDay, se_X2_nextDay, ini_X2, cd_X2_nextDay, by decide +kernel⟩
set_option maxHeartbeats 4000000 in
set_option maxRecDepth 100000 in
theorem c_X2_nextDay (l : Launch) (E : Ev) (a : Nat → Nat) (σ : Sg) (b : Nat → Nat) (τ : Sg) {out : Sg} (hf : f_X2_nextDay σ τ = some out) : MtV l yX2_nextDay (wl yX2_nextDay cX2_nextDay 2 none) rm_X2_nextDay E [.ref (a 0), .ref (b 0)] (wX2X0 E a σ b τ) (wX2X0 E a out b τ) := by
  refine mt_of (QQ := (fun A => va_Qv (fun _ : Unit => True) (fun _ t => QW E (wX2X0 E a out b τ) t) A)) (by decide) (Nat.le_of_ble_eq_true rfl) (fun p e s m below meth c A ls X hr hP hD hS hl => ?_)
  have hx := X.1.1
  have hb := X.1.2.1
  have hl : lv_has ls 2 [(0, .ref (a 0)), (1, .ref (b 0))] := hl
  obtain ⟨H, hHe⟩ : ∃ H : Heap, H = s.heap := ⟨_, rfl⟩
  obtain ⟨locs, hLe⟩ : ∃ locs : List Loc, locs = [] := ⟨_, rfl⟩
  have hP : va_P E.1 vwCl (wX2X0 E a σ b τ) H := by rw [hHe]; exact hP
  have hS : va_S A s.heap H locs := by rw [hHe, hLe]; exact hS
  rw [← hLe, show W p l e rm_X2_nextDay s m ([.ref (a 0), .ref (b 0)] : List Value).toArray below meth c s.heap locs 0 0 = W p l e rm_X2_nextDay s m ([.ref (a 0), .ref (b 0)] : List Value).toArray below meth c H locs 0 0 from by rw [hHe]]
  refine lv_aload_n hx hb dX2_nextDay_0 rfl (lv_at hl 0 rfl) ?_
  refine lv_dup hx hb dX2_nextDay_1 rfl ?_
  refine r_get X hP 0 (wX2X0_g0_0 _ _ _ _ _) rfl inc_X2 1 (by decide) fl_X2_15 rfl dX2_nextDay_2 ?_
  refine lv_iconst (v := 1) hx hb dX2_nextDay_5 (by decide) ?_
  refine lv_iadd hx hb dX2_nextDay_6 ?_
  refine r_put X hP hD hS 0 (wX2X0_g0_0 _ _ _ _ _) rfl inc_X2 tyX2 tyX2_ok nmX2 1 (by decide) fl_X2_15 rfl (ty := .int) rfl rfl rfl (Nat.le_of_ble_eq_true rfl) (wX2X0_s0_0_1 _ _ _ _ _ _) dX2_nextDay_7 (fun H locs hP hD hS => ?_)
  refine lv_aload_n hx hb dX2_nextDay_10 rfl (lv_at hl 0 rfl) ?_
  refine lv_iconst (v := 0) hx hb dX2_nextDay_11 (by decide) ?_
  refine r_put X hP hD hS 0 (wX2X0_g0_0 _ _ _ _ _) rfl inc_X2 tyX2 tyX2_ok nmX2 2 (by decide) fl_X2_19 rfl (ty := .int) rfl rfl rfl (Nat.le_of_ble_eq_true rfl) (wX2X0_s0_0_2 _ _ _ _ _ _) dX2_nextDay_12 (fun H locs hP hD hS => ?_)
  refine lv_aload_n hx hb dX2_nextDay_15 rfl (lv_at hl 1 rfl) ?_
  refine r_get X hP 3 (wX2X0_g1_0 _ _ _ _ _) rfl inc_X0 3 (by decide) fl_X2_29 rfl dX2_nextDay_16 ?_
  refine lv_iconst (v := 0) hx hb dX2_nextDay_19 (by decide) ?_
  refine lv_aload_n hx hb dX2_nextDay_20 rfl (lv_at hl 0 rfl) ?_
  refine r_get X hP 0 (wX2X0_g0_0 _ _ _ _ _) rfl inc_X2 4 (by decide) fl_X2_26 rfl dX2_nextDay_21 ?_
  refine lv_iconst (v := 0) hx hb dX2_nextDay_24 (by decide) ?_
  refine lv_bipush (v := 24) hx hb dX2_nextDay_25 (by decide) ?_
  obtain ⟨h1, hf⟩ := ccp_in hf
  refine r_copy X hl.1 hP hD hS ml_X2_34 nv_arraycopy sm_arraycopy ini_J10 6 2 (wX2X0_g1_3 _ _ _ _ _) (wX2X0_g0_2 _ _ _ _ _) h1 (Nat.le_of_ble_eq_true rfl) (Nat.le_of_ble_eq_true rfl) (wX2X0_r0_2 _ _ _ _ _ _) dX2_nextDay_27 (fun H locs hP hD hS => ?_)
  have ho := Option.some.inj hf
  have hw := congrArg (fun o : Sg => (wX2X0 E a o b τ)) ho
  exact r_vret X hr hP hS hw dX2_nextDay_30
def rm_X4_isFull : Room := { frames := 0, cells := 0, slots := 0, locals := 0 }
theorem pv_X4_isFull : PkV RX4 yX4_isFull cX4_isFull 1 (some .boolean) 0 := ⟨im_X4_isFull, se_X4_isFull, ini_X4, cd_X4_isFull, by decide +kernel⟩
set_option maxHeartbeats 4000000 in
set_option maxRecDepth 100000 in
theorem c_X4_isFull (l : Launch) (E : Ev) (a : Nat → Nat) (σ : Sg) {out : Int32} (hf : f_X4_isFull σ = some out) : MtI l yX4_isFull (wl yX4_isFull cX4_isFull 1 (some .boolean)) rm_X4_isFull E [.ref (a 0)] (wX4 E a σ) out (wX4 E a σ) := by
  refine mt_of (QQ := (fun A => va_Qi (fun x (_ : Unit) => x = out) (fun _ t => QW E (wX4 E a σ) t) A)) (by decide) (Nat.le_of_ble_eq_true rfl) (fun p e s m below meth c A ls X hr hP hD hS hl => ?_)
  have hx := X.1.1
  have hb := X.1.2.1
  have hl : lv_has ls 1 [(0, .ref (a 0))] := hl
  obtain ⟨H, hHe⟩ : ∃ H : Heap, H = s.heap := ⟨_, rfl⟩
  obtain ⟨locs, hLe⟩ : ∃ locs : List Loc, locs = [] := ⟨_, rfl⟩
  have hP : va_P E.1 vwCl (wX4 E a σ) H := by rw [hHe]; exact hP
  have hS : va_S A s.heap H locs := by rw [hHe, hLe]; exact hS
  rw [← hLe, show W p l e rm_X4_isFull s m ([.ref (a 0)] : List Value).toArray below meth c s.heap locs 0 0 = W p l e rm_X4_isFull s m ([.ref (a 0)] : List Value).toArray below meth c H locs 0 0 from by rw [hHe]]
  refine lv_aload_n hx hb dX4_isFull_0 rfl (lv_at hl 0 rfl) ?_
  refine r_get X hP 0 (wX4_g0_0 _ _ _) rfl inc_X4 0 (by decide) fl_X4_9 rfl dX4_isFull_1 ?_
  refine lv_bipush (v := 6) hx hb dX4_isFull_4 (by decide) ?_
  refine lv_icmp_lt (tgt := 13) hx hb dX4_isFull_6 (by decide) (fun c1 => ?_) (fun c1 => ?_)
  · have hf := (if_pos c1).symm.trans hf
    refine lv_iconst (v := 0) hx hb dX4_isFull_13 (by decide) ?_
    have ho := Option.some.inj hf
    exact r_zret X hr hP hS rfl ho rfl dX4_isFull_14
  · have hf := (if_neg c1).symm.trans hf
    refine lv_iconst (v := 1) hx hb dX4_isFull_9 (by decide) ?_
    refine lv_goto (tgt := 14) hx hb dX4_isFull_10 (by decide) ?_
    have ho := Option.some.inj hf
    exact r_zret X hr hP hS rfl ho rfl dX4_isFull_14
def rm_X4_add : Room := { frames := 1, cells := 0, slots := 0, locals := 20 }
theorem pv_X4_add : PkV RX4 yX4_add cX4_add 3 none 2 := ⟨im_X4_add, se_X4_add, ini_X4, cd_X4_add, by decide +kernel⟩
set_option maxHeartbeats 4000000 in
set_option maxRecDepth 100000 in
theorem c_X4_add (l : Launch) (E : Ev) (a : Nat → Nat) (σ : Sg) (p1 : Int32) (p2 : Int32) {out : Sg} (hf : f_X4_add σ p1 p2 = some out) : MtV l yX4_add (wl yX4_add cX4_add 3 none) rm_X4_add E [.ref (a 0), .int p1, .int p2] (wX4 E a σ) (wX4 E a out) := by
  refine mt_of (QQ := (fun A => va_Qv (fun _ : Unit => True) (fun _ t => QW E (wX4 E a out) t) A)) (by decide) (Nat.le_of_ble_eq_true rfl) (fun p e s m below meth c A ls X hr hP hD hS hl => ?_)
  have hx := X.1.1
  have hb := X.1.2.1
  have hl : lv_has ls 3 [(0, .ref (a 0)), (1, .int p1), (2, .int p2)] := hl
  obtain ⟨H, hHe⟩ : ∃ H : Heap, H = s.heap := ⟨_, rfl⟩
  obtain ⟨locs, hLe⟩ : ∃ locs : List Loc, locs = [] := ⟨_, rfl⟩
  have hP : va_P E.1 vwCl (wX4 E a σ) H := by rw [hHe]; exact hP
  have hS : va_S A s.heap H locs := by rw [hHe, hLe]; exact hS
  rw [← hLe, show W p l e rm_X4_add s m ([.ref (a 0), .int p1, .int p2] : List Value).toArray below meth c s.heap locs 0 0 = W p l e rm_X4_add s m ([.ref (a 0), .int p1, .int p2] : List Value).toArray below meth c H locs 0 0 from by rw [hHe]]
  refine lv_aload_n hx hb dX4_add_0 rfl (lv_at hl 0 rfl) ?_
  obtain ⟨z1, hz1, hf⟩ := obd hf
  refine cV_allI X (As := []) (rest := []) (c_X4_isFull l E a σ hz1) pv_X4_isFull ml_X4_22 ⟨rfl, rfl⟩ ⟨(Nat.le_of_ble_eq_true rfl), (Nat.le_of_ble_eq_true rfl)⟩ hP hD hS (wX4_g0_0 _ _ _) rfl (wX4_adr _ _ _ _) rfl hl.1 rfl (Nat.le_of_ble_eq_true rfl) dX4_add_1 ⟨Nat.le_refl _, Nat.le_refl _⟩ (fun H locs hP hD hS => ?_)
  refine lv_if_ne (tgt := 37) hx hb dX4_add_4 (by decide) (fun c2 => ?_) (fun c2 => ?_)
  · have hf := (if_neg c2).symm.trans hf
    have ho := Option.some.inj hf
    have hw := congrArg (fun o : Sg => (wX4 E a o)) ho
    exact r_vret X hr hP hS hw dX4_add_37
  · have hf := (if_pos c2).symm.trans hf
    refine lv_aload_n hx hb dX4_add_7 rfl (lv_at hl 0 rfl) ?_
    refine r_get X hP 0 (wX4_g0_0 _ _ _) rfl inc_X4 1 (by decide) fl_X4_15 rfl dX4_add_8 ?_
    refine lv_aload_n hx hb dX4_add_11 rfl (lv_at hl 0 rfl) ?_
    refine r_get X hP 0 (wX4_g0_0 _ _ _) rfl inc_X4 0 (by decide) fl_X4_9 rfl dX4_add_12 ?_
    refine lv_iload_n hx hb dX4_add_15 rfl (lv_at hl 1 rfl) ?_
    obtain ⟨h3, hf⟩ := chk_in hf
    refine r_iast X hP hD hS 1 (wX4_g0_1 _ _ _) h3 (wX4_t0_1 _ _ _ _ _) dX4_add_16 (fun H locs hP hD hS => ?_)
    refine lv_aload_n hx hb dX4_add_17 rfl (lv_at hl 0 rfl) ?_
    refine r_get X hP 0 (wX4_g0_0 _ _ _) rfl inc_X4 2 (by decide) fl_X4_19 rfl dX4_add_18 ?_
    refine lv_aload_n hx hb dX4_add_21 rfl (lv_at hl 0 rfl) ?_
    refine r_get X hP 0 (wX4_g0_0 _ _ _) rfl inc_X4 0 (by decide) fl_X4_9 rfl dX4_add_22 ?_
    refine lv_iload_n hx hb dX4_add_25 rfl (lv_at hl 2 rfl) ?_
    obtain ⟨h4, hf⟩ := chk_in hf
    refine r_iast X hP hD hS 2 (wX4_g0_2 _ _ _) h4 (wX4_t0_2 _ _ _ _ _) dX4_add_26 (fun H locs hP hD hS => ?_)
    refine lv_aload_n hx hb dX4_add_27 rfl (lv_at hl 0 rfl) ?_
    refine lv_dup hx hb dX4_add_28 rfl ?_
    refine r_get X hP 0 (wX4_g0_0 _ _ _) rfl inc_X4 0 (by decide) fl_X4_9 rfl dX4_add_29 ?_
    refine lv_iconst (v := 1) hx hb dX4_add_32 (by decide) ?_
    refine lv_iadd hx hb dX4_add_33 ?_
    refine r_put X hP hD hS 0 (wX4_g0_0 _ _ _) rfl inc_X4 tyX4 tyX4_ok nmX4 0 (by decide) fl_X4_9 rfl (ty := .int) rfl rfl rfl (Nat.le_of_ble_eq_true rfl) (wX4_s0_0_0 _ _ _ _) dX4_add_34 (fun H locs hP hD hS => ?_)
    have ho := Option.some.inj hf
    have hw := congrArg (fun o : Sg => (wX4 E a o)) ho
    exact r_vret X hr hP hS hw dX4_add_37
