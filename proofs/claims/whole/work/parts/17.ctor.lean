def rm_X4_init : Room := { frames := 1, cells := 2, slots := 12, locals := 20 }
set_option maxHeartbeats 4000000 in
set_option maxRecDepth 100000 in
theorem c_X4_init (l : Launch) (E : Ev) : MtN l yX4_init cX4_init 1 rm_X4_init E 4 [.int 0, .null, .null] 2 12 (fun u => wX4 E u sgz) := by
  refine mtN_of (by decide) rfl (Nat.le_of_ble_eq_true rfl) (fun p e s m below meth c A ls h0 X hr hin hP hD hS hl => ?_)
  have hx := X.1.1
  have hb := X.1.2.1
  refine lv_aload_n hx hb dX4_init_0 rfl (lv_at hl 0 rfl) ?_
  refine r_obj X hl.1 ml_X4_3 (Nat.le_of_ble_eq_true rfl) (Nat.le_of_ble_eq_true rfl) dX4_init_1 ?_
  refine lv_aload_n hx hb dX4_init_4 rfl (lv_at hl 0 rfl) ?_
  refine lv_iconst (v := 0) hx hb dX4_init_5 (by decide) ?_
  refine r_put (w' := ([(h0, .inr (4, [.int 0, .null, .null]))] : va_W)) X hP hD hS 0 rfl rfl inc_X4 tyX4 tyX4_ok nmX4 0 (by decide) fl_X4_9 rfl (ty := .int) rfl rfl rfl (Nat.le_of_ble_eq_true rfl) rfl dX4_init_6 (fun H locs hP hD hS => ?_)
  refine lv_aload_n hx hb dX4_init_9 rfl (lv_at hl 0 rfl) ?_
  refine lv_bipush (v := 6) hx hb dX4_init_10 (by decide) ?_
  refine r_newi X hP hD hS (N := 6) (by decide) (by decide) (Nat.le_of_ble_eq_true rfl) (Nat.le_of_ble_eq_true rfl) (Nat.le_of_ble_eq_true rfl) dX4_init_12 (fun q1 H hP hD hS => ?_)
  refine r_putF (w' := ([(h0, .inr (4, [.int 0, .ref q1, .null]))] : va_W) ++ [(q1, .inl (E.2.1 0, 6, .inl (sgz 0)))]) X hin hP hD hS 0 rfl rfl inc_X4 tyX4 tyX4_ok nmX4 1 (by decide) fl_X4_15 rfl rfl rfl rfl (Nat.le_of_ble_eq_true rfl) rfl dX4_init_14 (fun H locs hP hD hS => ?_)
  refine lv_aload_n hx hb dX4_init_17 rfl (lv_at hl 0 rfl) ?_
  refine lv_bipush (v := 6) hx hb dX4_init_18 (by decide) ?_
  refine r_newi X hP hD hS (N := 6) (by decide) (by decide) (Nat.le_of_ble_eq_true rfl) (Nat.le_of_ble_eq_true rfl) (Nat.le_of_ble_eq_true rfl) dX4_init_20 (fun q2 H hP hD hS => ?_)
  refine r_putF (w' := ([(h0, .inr (4, [.int 0, .ref q1, .ref q2]))] : va_W) ++ [(q1, .inl (E.2.1 0, 6, .inl (sgz 0)))] ++ [(q2, .inl (E.2.1 0, 6, .inl (sgz 0)))]) X hin hP hD hS 0 rfl rfl inc_X4 tyX4 tyX4_ok nmX4 2 (by decide) fl_X4_19 rfl rfl rfl rfl (Nat.le_of_ble_eq_true rfl) rfl dX4_init_22 (fun H locs hP hD hS => ?_)
  have hP : va_P E.1 vwCl (wX4 E (fun k => if k = 0 then h0 else if k < 2 then q1 else q2) sgz) H := hP
  have hD : va_D A (wX4 E (fun k => if k = 0 then h0 else if k < 2 then q1 else q2) sgz) := hD
  exact r_nret (wf := (fun u => wX4 E u sgz)) (u := (fun k => if k = 0 then h0 else if k < 2 then q1 else q2)) X hr rfl hP hD hS rfl dX4_init_25
noncomputable def f_X1_init : Option (Sg) :=
  (f_X1_becomeAsAtFirst sgz).bind fun z1 =>
  some z1
def rm_X1_init : Room := { frames := 2, cells := 4, slots := 31, locals := 40 }
set_option maxHeartbeats 4000000 in
set_option maxRecDepth 100000 in
theorem c_X1_init (l : Launch) (E : Ev) {out : Sg} (hf : f_X1_init = some out) : MtN l yX1_init cX1_init 1 rm_X1_init E 1 [.int 0, .int 0, .int 0, .null, .null] 4 31 (fun u => wX1 E u out) := by
  refine mtN_of (by decide) rfl (Nat.le_of_ble_eq_true rfl) (fun p e s m below meth c A ls h0 X hr hin hP hD hS hl => ?_)
  have hx := X.1.1
  have hb := X.1.2.1
  refine lv_aload_n hx hb dX1_init_0 rfl (lv_at hl 0 rfl) ?_
  refine r_obj X hl.1 ml_X1_3 (Nat.le_of_ble_eq_true rfl) (Nat.le_of_ble_eq_true rfl) dX1_init_1 ?_
  refine lv_aload_n hx hb dX1_init_4 rfl (lv_at hl 0 rfl) ?_
  refine lv_bipush (v := 16) hx hb dX1_init_5 (by decide) ?_
  refine r_newi X hP hD hS (N := 16) (by decide) (by decide) (Nat.le_of_ble_eq_true rfl) (Nat.le_of_ble_eq_true rfl) (Nat.le_of_ble_eq_true rfl) dX1_init_7 (fun q1 H hP hD hS => ?_)
  refine r_putF (w' := ([(h0, .inr (1, [.int 0, .int 0, .int 0, .ref q1, .null]))] : va_W) ++ [(q1, .inl (E.2.1 0, 16, .inl (sgz 0)))]) X hin hP hD hS 0 rfl rfl inc_X1 tyX1 tyX1_ok nmX1 3 (by decide) fl_X1_9 rfl rfl rfl rfl (Nat.le_of_ble_eq_true rfl) rfl dX1_init_9 (fun H locs hP hD hS => ?_)
  refine lv_aload_n hx hb dX1_init_12 rfl (lv_at hl 0 rfl) ?_
  refine r_newI X hl.1 hP hD hS (ci := 4) (fs := [.int 0, .null, .null]) rfl inc_X4 tyX4 tyX4_ok ck_X1_15 ins_X4 ini_X4 rfl (fun j hj => by
      match j, hj with
      | 0, _ => rfl
      | 1, _ => rfl
      | 2, _ => rfl
      | k + 3, h => omega) (c_X4_init l E) cd_X4_init ml_X1_17 im_X4_init rfl (by decide +kernel) ⟨rfl, rfl⟩ ⟨(Nat.le_of_ble_eq_true rfl), (Nat.le_of_ble_eq_true rfl)⟩ (Nat.le_of_ble_eq_true rfl) (Nat.le_of_ble_eq_true rfl) (Nat.le_of_ble_eq_true rfl) dX1_init_13 dX1_init_16 dX1_init_17 (fun u2 H locs hP hD hS => ?_)
  refine r_putF (w' := ([(h0, .inr (1, [.int 0, .int 0, .int 0, .ref q1, .ref (u2 0)]))] : va_W) ++ [(q1, .inl (E.2.1 0, 16, .inl (sgz 0)))] ++ wX4 E u2 sgz) X hin hP hD hS 0 rfl rfl inc_X1 tyX1 tyX1_ok nmX1 4 (by decide) fl_X1_18 rfl rfl rfl rfl (Nat.le_of_ble_eq_true rfl) rfl dX1_init_20 (fun H locs hP hD hS => ?_)
  have hP : va_P E.1 vwCl (wX1 E (fun k => if k = 0 then h0 else if k < 2 then q1 else u2 (k - 2)) sgz) H := hP
  have hD : va_D A (wX1 E (fun k => if k = 0 then h0 else if k < 2 then q1 else u2 (k - 2)) sgz) := hD
  have hu : (fun k => if k = 0 then h0 else if k < 2 then q1 else u2 (k - 2)) 0 = h0 := rfl
  generalize (fun k => if k = 0 then h0 else if k < 2 then q1 else u2 (k - 2)) = u at hP hD hu
  have hl : lv_has ls 1 [(0, .ref (u 0))] := by
    rw [hu]
    exact lv_sub hl [0] rfl
  refine lv_aload_n hx hb dX1_init_23 rfl (lv_at hl 0 rfl) ?_
  obtain ⟨z1, hz1, hf⟩ := obd hf
  refine cV_allV X (As := []) (rest := []) (c_X1_becomeAsAtFirst l E u sgz hz1) pv_X1_becomeAsAtFirst ml_X1_22 ⟨rfl, rfl⟩ ⟨(Nat.le_of_ble_eq_true rfl), (Nat.le_of_ble_eq_true rfl)⟩ hP hD hS (wX1_g0_0 _ _ _) rfl (wX1_adr _ _ _ _) rfl hl.1 rfl (Nat.le_of_ble_eq_true rfl) dX1_init_24 ⟨Nat.le_refl _, Nat.le_refl _⟩ (fun H locs hP hD hS => ?_)
  have ho := Option.some.inj hf
  have hw := congrArg (fun o : Sg => (wX1 E u o)) ho
  exact r_nret (wf := (fun u => wX1 E u out)) X hr hu hP hD hS hw dX1_init_27
def rm_X2_init : Room := { frames := 1, cells := 2, slots := 30, locals := 20 }
set_option maxHeartbeats 4000000 in
set_option maxRecDepth 100000 in
theorem c_X2_init (l : Launch) (E : Ev) : MtN l yX2_init cX2_init 1 rm_X2_init E 2 [.int 0, .int 0, .int 0, .null, .null] 2 30 (fun u => wX2 E u sgz) := by
  refine mtN_of (by decide) rfl (Nat.le_of_ble_eq_true rfl) (fun p e s m below meth c A ls h0 X hr hin hP hD hS hl => ?_)
  have hx := X.1.1
  have hb := X.1.2.1
  refine lv_aload_n hx hb dX2_init_0 rfl (lv_at hl 0 rfl) ?_
  refine r_obj X hl.1 ml_X2_3 (Nat.le_of_ble_eq_true rfl) (Nat.le_of_ble_eq_true rfl) dX2_init_1 ?_
  refine lv_aload_n hx hb dX2_init_4 rfl (lv_at hl 0 rfl) ?_
  refine lv_iconst (v := 0) hx hb dX2_init_5 (by decide) ?_
  refine r_put (w' := ([(h0, .inr (2, [.int 0, .int 0, .int 0, .null, .null]))] : va_W)) X hP hD hS 0 rfl rfl inc_X2 tyX2 tyX2_ok nmX2 0 (by decide) fl_X2_9 rfl (ty := .boolean) rfl rfl rfl (Nat.le_of_ble_eq_true rfl) rfl dX2_init_6 (fun H locs hP hD hS => ?_)
  refine lv_aload_n hx hb dX2_init_9 rfl (lv_at hl 0 rfl) ?_
  refine lv_iconst (v := 0) hx hb dX2_init_10 (by decide) ?_
  refine r_put (w' := ([(h0, .inr (2, [.int 0, .int 0, .int 0, .null, .null]))] : va_W)) X hP hD hS 0 rfl rfl inc_X2 tyX2 tyX2_ok nmX2 1 (by decide) fl_X2_15 rfl (ty := .int) rfl rfl rfl (Nat.le_of_ble_eq_true rfl) rfl dX2_init_11 (fun H locs hP hD hS => ?_)
  refine lv_aload_n hx hb dX2_init_14 rfl (lv_at hl 0 rfl) ?_
  refine lv_iconst (v := 0) hx hb dX2_init_15 (by decide) ?_
  refine r_put (w' := ([(h0, .inr (2, [.int 0, .int 0, .int 0, .null, .null]))] : va_W)) X hP hD hS 0 rfl rfl inc_X2 tyX2 tyX2_ok nmX2 2 (by decide) fl_X2_19 rfl (ty := .int) rfl rfl rfl (Nat.le_of_ble_eq_true rfl) rfl dX2_init_16 (fun H locs hP hD hS => ?_)
  refine lv_aload_n hx hb dX2_init_19 rfl (lv_at hl 0 rfl) ?_
  refine lv_bipush (v := 6) hx hb dX2_init_20 (by decide) ?_
  refine r_newi X hP hD hS (N := 6) (by decide) (by decide) (Nat.le_of_ble_eq_true rfl) (Nat.le_of_ble_eq_true rfl) (Nat.le_of_ble_eq_true rfl) dX2_init_22 (fun q1 H hP hD hS => ?_)
  refine r_putF (w' := ([(h0, .inr (2, [.int 0, .int 0, .int 0, .ref q1, .null]))] : va_W) ++ [(q1, .inl (E.2.1 0, 6, .inl (sgz 0)))]) X hin hP hD hS 0 rfl rfl inc_X2 tyX2 tyX2_ok nmX2 3 (by decide) fl_X2_22 rfl rfl rfl rfl (Nat.le_of_ble_eq_true rfl) rfl dX2_init_24 (fun H locs hP hD hS => ?_)
  refine lv_aload_n hx hb dX2_init_27 rfl (lv_at hl 0 rfl) ?_
  refine lv_bipush (v := 24) hx hb dX2_init_28 (by decide) ?_
  refine r_newi X hP hD hS (N := 24) (by decide) (by decide) (Nat.le_of_ble_eq_true rfl) (Nat.le_of_ble_eq_true rfl) (Nat.le_of_ble_eq_true rfl) dX2_init_30 (fun q2 H hP hD hS => ?_)
  refine r_putF (w' := ([(h0, .inr (2, [.int 0, .int 0, .int 0, .ref q1, .ref q2]))] : va_W) ++ [(q1, .inl (E.2.1 0, 6, .inl (sgz 0)))] ++ [(q2, .inl (E.2.1 0, 24, .inl (sgz 0)))]) X hin hP hD hS 0 rfl rfl inc_X2 tyX2 tyX2_ok nmX2 4 (by decide) fl_X2_26 rfl rfl rfl rfl (Nat.le_of_ble_eq_true rfl) rfl dX2_init_32 (fun H locs hP hD hS => ?_)
  have hP : va_P E.1 vwCl (wX2 E (fun k => if k = 0 then h0 else if k < 2 then q1 else q2) sgz) H := hP
  have hD : va_D A (wX2 E (fun k => if k = 0 then h0 else if k < 2 then q1 else q2) sgz) := hD
  exact r_nret (wf := (fun u => wX2 E u sgz)) (u := (fun k => if k = 0 then h0 else if k < 2 then q1 else q2)) X hr rfl hP hD hS rfl dX2_init_35
def rm_X3_init : Room := { frames := 1, cells := 5, slots := 80, locals := 20 }
set_option maxHeartbeats 4000000 in
set_option maxRecDepth 100000 in
theorem c_X3_init (l : Launch) (E : Ev) : MtN l yX3_init cX3_init 1 rm_X3_init E 3 [.int 0, .int 0, .int 0, .null, .null, .null, .null, .null] 5 80 (fun u => wX3 E u sgz) := by
  refine mtN_of (by decide) rfl (Nat.le_of_ble_eq_true rfl) (fun p e s m below meth c A ls h0 X hr hin hP hD hS hl => ?_)
  have hx := X.1.1
  have hb := X.1.2.1
  refine lv_aload_n hx hb dX3_init_0 rfl (lv_at hl 0 rfl) ?_
  refine r_obj X hl.1 ml_X3_3 (Nat.le_of_ble_eq_true rfl) (Nat.le_of_ble_eq_true rfl) dX3_init_1 ?_
  refine lv_aload_n hx hb dX3_init_4 rfl (lv_at hl 0 rfl) ?_
  refine lv_iconst (v := 0) hx hb dX3_init_5 (by decide) ?_
  refine r_put (w' := ([(h0, .inr (3, [.int 0, .int 0, .int 0, .null, .null, .null, .null, .null]))] : va_W)) X hP hD hS 0 rfl rfl inc_X3 tyX3 tyX3_ok nmX3 0 (by decide) fl_X3_9 rfl (ty := .int) rfl rfl rfl (Nat.le_of_ble_eq_true rfl) rfl dX3_init_6 (fun H locs hP hD hS => ?_)
  refine lv_aload_n hx hb dX3_init_9 rfl (lv_at hl 0 rfl) ?_
  refine lv_iconst (v := 0) hx hb dX3_init_10 (by decide) ?_
  refine r_put (w' := ([(h0, .inr (3, [.int 0, .int 0, .int 0, .null, .null, .null, .null, .null]))] : va_W)) X hP hD hS 0 rfl rfl inc_X3 tyX3 tyX3_ok nmX3 1 (by decide) fl_X3_15 rfl (ty := .int) rfl rfl rfl (Nat.le_of_ble_eq_true rfl) rfl dX3_init_11 (fun H locs hP hD hS => ?_)
  refine lv_aload_n hx hb dX3_init_14 rfl (lv_at hl 0 rfl) ?_
  refine lv_iconst (v := 0) hx hb dX3_init_15 (by decide) ?_
  refine r_put (w' := ([(h0, .inr (3, [.int 0, .int 0, .int 0, .null, .null, .null, .null, .null]))] : va_W)) X hP hD hS 0 rfl rfl inc_X3 tyX3 tyX3_ok nmX3 2 (by decide) fl_X3_18 rfl (ty := .int) rfl rfl rfl (Nat.le_of_ble_eq_true rfl) rfl dX3_init_16 (fun H locs hP hD hS => ?_)
  refine lv_aload_n hx hb dX3_init_19 rfl (lv_at hl 0 rfl) ?_
  refine lv_bipush (v := 16) hx hb dX3_init_20 (by decide) ?_
  refine r_newi X hP hD hS (N := 16) (by decide) (by decide) (Nat.le_of_ble_eq_true rfl) (Nat.le_of_ble_eq_true rfl) (Nat.le_of_ble_eq_true rfl) dX3_init_22 (fun q1 H hP hD hS => ?_)
  refine r_putF (w' := ([(h0, .inr (3, [.int 0, .int 0, .int 0, .ref q1, .null, .null, .null, .null]))] : va_W) ++ [(q1, .inl (E.2.1 0, 16, .inl (sgz 0)))]) X hin hP hD hS 0 rfl rfl inc_X3 tyX3 tyX3_ok nmX3 3 (by decide) fl_X3_21 rfl rfl rfl rfl (Nat.le_of_ble_eq_true rfl) rfl dX3_init_24 (fun H locs hP hD hS => ?_)
  refine lv_aload_n hx hb dX3_init_27 rfl (lv_at hl 0 rfl) ?_
  refine lv_bipush (v := 16) hx hb dX3_init_28 (by decide) ?_
  refine r_newi X hP hD hS (N := 16) (by decide) (by decide) (Nat.le_of_ble_eq_true rfl) (Nat.le_of_ble_eq_true rfl) (Nat.le_of_ble_eq_true rfl) dX3_init_30 (fun q2 H hP hD hS => ?_)
  refine r_putF (w' := ([(h0, .inr (3, [.int 0, .int 0, .int 0, .ref q1, .ref q2, .null, .null, .null]))] : va_W) ++ [(q1, .inl (E.2.1 0, 16, .inl (sgz 0)))] ++ [(q2, .inl (E.2.1 0, 16, .inl (sgz 0)))]) X hin hP hD hS 0 rfl rfl inc_X3 tyX3 tyX3_ok nmX3 4 (by decide) fl_X3_25 rfl rfl rfl rfl (Nat.le_of_ble_eq_true rfl) rfl dX3_init_32 (fun H locs hP hD hS => ?_)
  refine lv_aload_n hx hb dX3_init_35 rfl (lv_at hl 0 rfl) ?_
  refine lv_bipush (v := 16) hx hb dX3_init_36 (by decide) ?_
  refine r_newi X hP hD hS (N := 16) (by decide) (by decide) (Nat.le_of_ble_eq_true rfl) (Nat.le_of_ble_eq_true rfl) (Nat.le_of_ble_eq_true rfl) dX3_init_38 (fun q3 H hP hD hS => ?_)
  refine r_putF (w' := ([(h0, .inr (3, [.int 0, .int 0, .int 0, .ref q1, .ref q2, .ref q3, .null, .null]))] : va_W) ++ [(q1, .inl (E.2.1 0, 16, .inl (sgz 0)))] ++ [(q2, .inl (E.2.1 0, 16, .inl (sgz 0)))] ++ [(q3, .inl (E.2.1 0, 16, .inl (sgz 0)))]) X hin hP hD hS 0 rfl rfl inc_X3 tyX3 tyX3_ok nmX3 5 (by decide) fl_X3_28 rfl rfl rfl rfl (Nat.le_of_ble_eq_true rfl) rfl dX3_init_40 (fun H locs hP hD hS => ?_)
  refine lv_aload_n hx hb dX3_init_43 rfl (lv_at hl 0 rfl) ?_
  refine lv_bipush (v := 16) hx hb dX3_init_44 (by decide) ?_
  refine r_newi X hP hD hS (N := 16) (by decide) (by decide) (Nat.le_of_ble_eq_true rfl) (Nat.le_of_ble_eq_true rfl) (Nat.le_of_ble_eq_true rfl) dX3_init_46 (fun q4 H hP hD hS => ?_)
  refine r_putF (w' := ([(h0, .inr (3, [.int 0, .int 0, .int 0, .ref q1, .ref q2, .ref q3, .ref q4, .null]))] : va_W) ++ [(q1, .inl (E.2.1 0, 16, .inl (sgz 0)))] ++ [(q2, .inl (E.2.1 0, 16, .inl (sgz 0)))] ++ [(q3, .inl (E.2.1 0, 16, .inl (sgz 0)))] ++ [(q4, .inl (E.2.1 0, 16, .inl (sgz 0)))]) X hin hP hD hS 0 rfl rfl inc_X3 tyX3 tyX3_ok nmX3 6 (by decide) fl_X3_31 rfl rfl rfl rfl (Nat.le_of_ble_eq_true rfl) rfl dX3_init_48 (fun H locs hP hD hS => ?_)
  refine lv_aload_n hx hb dX3_init_51 rfl (lv_at hl 0 rfl) ?_
  refine lv_bipush (v := 16) hx hb dX3_init_52 (by decide) ?_
  refine r_newi X hP hD hS (N := 16) (by decide) (by decide) (Nat.le_of_ble_eq_true rfl) (Nat.le_of_ble_eq_true rfl) (Nat.le_of_ble_eq_true rfl) dX3_init_54 (fun q5 H hP hD hS => ?_)
  refine r_putF (w' := ([(h0, .inr (3, [.int 0, .int 0, .int 0, .ref q1, .ref q2, .ref q3, .ref q4, .ref q5]))] : va_W) ++ [(q1, .inl (E.2.1 0, 16, .inl (sgz 0)))] ++ [(q2, .inl (E.2.1 0, 16, .inl (sgz 0)))] ++ [(q3, .inl (E.2.1 0, 16, .inl (sgz 0)))] ++ [(q4, .inl (E.2.1 0, 16, .inl (sgz 0)))] ++ [(q5, .inl (E.2.1 0, 16, .inl (sgz 0)))]) X hin hP hD hS 0 rfl rfl inc_X3 tyX3 tyX3_ok nmX3 7 (by decide) fl_X3_34 rfl rfl rfl rfl (Nat.le_of_ble_eq_true rfl) rfl dX3_init_56 (fun H locs hP hD hS => ?_)
  have hP : va_P E.1 vwCl (wX3 E (fun k => if k = 0 then h0 else if k < 2 then q1 else if k < 3 then q2 else if k < 4 then q3 else if k < 5 then q4 else q5) sgz) H := hP
  have hD : va_D A (wX3 E (fun k => if k = 0 then h0 else if k < 2 then q1 else if k < 3 then q2 else if k < 4 then q3 else if k < 5 then q4 else q5) sgz) := hD
  exact r_nret (wf := (fun u => wX3 E u sgz)) (u := (fun k => if k = 0 then h0 else if k < 2 then q1 else if k < 3 then q2 else if k < 4 then q3 else if k < 5 then q4 else q5)) X hr rfl hP hD hS rfl dX3_init_59
def rm_X0_init : Room := { frames := 1, cells := 3, slots := 72, locals := 20 }
set_option maxHeartbeats 4000000 in
set_option maxRecDepth 100000 in
theorem c_X0_init (l : Launch) (E : Ev) : MtN l yX0_init cX0_init 1 rm_X0_init E 0 [.int 0, .null, .null, .null] 3 72 (fun u => wX0 E u sgz) := by
  refine mtN_of (by decide) rfl (Nat.le_of_ble_eq_true rfl) (fun p e s m below meth c A ls h0 X hr hin hP hD hS hl => ?_)
  have hx := X.1.1
  have hb := X.1.2.1
  refine lv_aload_n hx hb dX0_init_0 rfl (lv_at hl 0 rfl) ?_
  refine r_obj X hl.1 ml_X0_3 (Nat.le_of_ble_eq_true rfl) (Nat.le_of_ble_eq_true rfl) dX0_init_1 ?_
  refine lv_aload_n hx hb dX0_init_4 rfl (lv_at hl 0 rfl) ?_
  refine lv_iconst (v := 0) hx hb dX0_init_5 (by decide) ?_
  refine r_put (w' := ([(h0, .inr (0, [.int 0, .null, .null, .null]))] : va_W)) X hP hD hS 0 rfl rfl inc_X0 tyX0 tyX0_ok nmX0 0 (by decide) fl_X0_9 rfl (ty := .int) rfl rfl rfl (Nat.le_of_ble_eq_true rfl) rfl dX0_init_6 (fun H locs hP hD hS => ?_)
  refine lv_aload_n hx hb dX0_init_9 rfl (lv_at hl 0 rfl) ?_
  refine lv_bipush (v := 24) hx hb dX0_init_10 (by decide) ?_
  refine r_newi X hP hD hS (N := 24) (by decide) (by decide) (Nat.le_of_ble_eq_true rfl) (Nat.le_of_ble_eq_true rfl) (Nat.le_of_ble_eq_true rfl) dX0_init_12 (fun q1 H hP hD hS => ?_)
  refine r_putF (w' := ([(h0, .inr (0, [.int 0, .ref q1, .null, .null]))] : va_W) ++ [(q1, .inl (E.2.1 0, 24, .inl (sgz 0)))]) X hin hP hD hS 0 rfl rfl inc_X0 tyX0 tyX0_ok nmX0 1 (by decide) fl_X0_15 rfl rfl rfl rfl (Nat.le_of_ble_eq_true rfl) rfl dX0_init_14 (fun H locs hP hD hS => ?_)
  refine lv_aload_n hx hb dX0_init_17 rfl (lv_at hl 0 rfl) ?_
  refine lv_bipush (v := 24) hx hb dX0_init_18 (by decide) ?_
  refine r_newi X hP hD hS (N := 24) (by decide) (by decide) (Nat.le_of_ble_eq_true rfl) (Nat.le_of_ble_eq_true rfl) (Nat.le_of_ble_eq_true rfl) dX0_init_20 (fun q2 H hP hD hS => ?_)
  refine r_putF (w' := ([(h0, .inr (0, [.int 0, .ref q1, .ref q2, .null]))] : va_W) ++ [(q1, .inl (E.2.1 0, 24, .inl (sgz 0)))] ++ [(q2, .inl (E.2.1 0, 24, .inl (sgz 0)))]) X hin hP hD hS 0 rfl rfl inc_X0 tyX0 tyX0_ok nmX0 2 (by decide) fl_X0_19 rfl rfl rfl rfl (Nat.le_of_ble_eq_true rfl) rfl dX0_init_22 (fun H locs hP hD hS => ?_)
  refine lv_aload_n hx hb dX0_init_25 rfl (lv_at hl 0 rfl) ?_
  refine lv_bipush (v := 24) hx hb dX0_init_26 (by decide) ?_
  refine r_newi X hP hD hS (N := 24) (by decide) (by decide) (Nat.le_of_ble_eq_true rfl) (Nat.le_of_ble_eq_true rfl) (Nat.le_of_ble_eq_true rfl) dX0_init_28 (fun q3 H hP hD hS => ?_)
  refine r_putF (w' := ([(h0, .inr (0, [.int 0, .ref q1, .ref q2, .ref q3]))] : va_W) ++ [(q1, .inl (E.2.1 0, 24, .inl (sgz 0)))] ++ [(q2, .inl (E.2.1 0, 24, .inl (sgz 0)))] ++ [(q3, .inl (E.2.1 0, 24, .inl (sgz 0)))]) X hin hP hD hS 0 rfl rfl inc_X0 tyX0 tyX0_ok nmX0 3 (by decide) fl_X0_22 rfl rfl rfl rfl (Nat.le_of_ble_eq_true rfl) rfl dX0_init_30 (fun H locs hP hD hS => ?_)
  have hP : va_P E.1 vwCl (wX0 E (fun k => if k = 0 then h0 else if k < 2 then q1 else if k < 3 then q2 else q3) sgz) H := hP
  have hD : va_D A (wX0 E (fun k => if k = 0 then h0 else if k < 2 then q1 else if k < 3 then q2 else q3) sgz) := hD
  exact r_nret (wf := (fun u => wX0 E u sgz)) (u := (fun k => if k = 0 then h0 else if k < 2 then q1 else if k < 3 then q2 else q3)) X hr rfl hP hD hS rfl dX0_init_33
def rm_X7_init : Room := { frames := 1, cells := 1, slots := 200, locals := 20 }
set_option maxHeartbeats 4000000 in
set_option maxRecDepth 100000 in
theorem c_X7_init (l : Launch) (E : Ev) : MtN l yX7_init cX7_init 1 rm_X7_init E 7 [.int 0, .null, .int 0, .int 0, .int 0, .int 0] 1 200 (fun u => wX7 E u sgz) := by
  refine mtN_of (by decide) rfl (Nat.le_of_ble_eq_true rfl) (fun p e s m below meth c A ls h0 X hr hin hP hD hS hl => ?_)
  have hx := X.1.1
  have hb := X.1.2.1
  refine lv_aload_n hx hb dX7_init_0 rfl (lv_at hl 0 rfl) ?_
  refine r_obj X hl.1 ml_X7_3 (Nat.le_of_ble_eq_true rfl) (Nat.le_of_ble_eq_true rfl) dX7_init_1 ?_
  refine lv_aload_n hx hb dX7_init_4 rfl (lv_at hl 0 rfl) ?_
  refine lv_iconst (v := 0) hx hb dX7_init_5 (by decide) ?_
  refine r_put (w' := ([(h0, .inr (7, [.int 0, .null, .int 0, .int 0, .int 0, .int 0]))] : va_W)) X hP hD hS 0 rfl rfl inc_X7 tyX7 tyX7_ok nmX7 0 (by decide) fl_X7_9 rfl (ty := .int) rfl rfl rfl (Nat.le_of_ble_eq_true rfl) rfl dX7_init_6 (fun H locs hP hD hS => ?_)
  refine lv_aload_n hx hb dX7_init_9 rfl (lv_at hl 0 rfl) ?_
  refine lv_sipush (v := 200) hx hb dX7_init_10 (by decide) ?_
  refine r_newi X hP hD hS (N := 200) (by decide) (by decide) (Nat.le_of_ble_eq_true rfl) (Nat.le_of_ble_eq_true rfl) (Nat.le_of_ble_eq_true rfl) dX7_init_13 (fun q1 H hP hD hS => ?_)
  refine r_putF (w' := ([(h0, .inr (7, [.int 0, .ref q1, .int 0, .int 0, .int 0, .int 0]))] : va_W) ++ [(q1, .inl (E.2.1 0, 200, .inl (sgz 0)))]) X hin hP hD hS 0 rfl rfl inc_X7 tyX7 tyX7_ok nmX7 1 (by decide) fl_X7_15 rfl rfl rfl rfl (Nat.le_of_ble_eq_true rfl) rfl dX7_init_15 (fun H locs hP hD hS => ?_)
  refine lv_aload_n hx hb dX7_init_18 rfl (lv_at hl 0 rfl) ?_
  refine lv_iconst (v := 0) hx hb dX7_init_19 (by decide) ?_
  refine r_put (w' := ([(h0, .inr (7, [.int 0, .ref q1, .int 0, .int 0, .int 0, .int 0]))] : va_W) ++ [(q1, .inl (E.2.1 0, 200, .inl (sgz 0)))]) X hP hD hS 0 rfl rfl inc_X7 tyX7 tyX7_ok nmX7 2 (by decide) fl_X7_19 rfl (ty := .int) rfl rfl rfl (Nat.le_of_ble_eq_true rfl) rfl dX7_init_20 (fun H locs hP hD hS => ?_)
  refine lv_aload_n hx hb dX7_init_23 rfl (lv_at hl 0 rfl) ?_
  refine lv_iconst (v := 0) hx hb dX7_init_24 (by decide) ?_
  refine r_put (w' := ([(h0, .inr (7, [.int 0, .ref q1, .int 0, .int 0, .int 0, .int 0]))] : va_W) ++ [(q1, .inl (E.2.1 0, 200, .inl (sgz 0)))]) X hP hD hS 0 rfl rfl inc_X7 tyX7 tyX7_ok nmX7 3 (by decide) fl_X7_22 rfl (ty := .int) rfl rfl rfl (Nat.le_of_ble_eq_true rfl) rfl dX7_init_25 (fun H locs hP hD hS => ?_)
  refine lv_aload_n hx hb dX7_init_28 rfl (lv_at hl 0 rfl) ?_
  refine lv_iconst (v := 0) hx hb dX7_init_29 (by decide) ?_
  refine r_put (w' := ([(h0, .inr (7, [.int 0, .ref q1, .int 0, .int 0, .int 0, .int 0]))] : va_W) ++ [(q1, .inl (E.2.1 0, 200, .inl (sgz 0)))]) X hP hD hS 0 rfl rfl inc_X7 tyX7 tyX7_ok nmX7 4 (by decide) fl_X7_25 rfl (ty := .int) rfl rfl rfl (Nat.le_of_ble_eq_true rfl) rfl dX7_init_30 (fun H locs hP hD hS => ?_)
  refine lv_aload_n hx hb dX7_init_33 rfl (lv_at hl 0 rfl) ?_
  refine lv_iconst (v := 0) hx hb dX7_init_34 (by decide) ?_
  refine r_put (w' := ([(h0, .inr (7, [.int 0, .ref q1, .int 0, .int 0, .int 0, .int 0]))] : va_W) ++ [(q1, .inl (E.2.1 0, 200, .inl (sgz 0)))]) X hP hD hS 0 rfl rfl inc_X7 tyX7 tyX7_ok nmX7 5 (by decide) fl_X7_28 rfl (ty := .int) rfl rfl rfl (Nat.le_of_ble_eq_true rfl) rfl dX7_init_35 (fun H locs hP hD hS => ?_)
  have hP : va_P E.1 vwCl (wX7 E (fun k => if k = 0 then h0 else q1) sgz) H := hP
  have hD : va_D A (wX7 E (fun k => if k = 0 then h0 else q1) sgz) := hD
  exact r_nret (wf := (fun u => wX7 E u sgz)) (u := (fun k => if k = 0 then h0 else q1)) X hr rfl hP hD hS rfl dX7_init_38
noncomputable def f_X6_init : Option (Sg) :=
  (f_X1_init).bind fun cz1 =>
  some (sg_sp sgz 3 5 cz1)
def rm_X6_init : Room := { frames := 3, cells := 7, slots := 242, locals := 60 }
set_option maxHeartbeats 4000000 in
set_option maxRecDepth 100000 in
theorem c_X6_init (l : Launch) (E : Ev) {out : Sg} (hf : f_X6_init = some out) : MtN l yX6_init cX6_init 1 rm_X6_init E 6 [.null, .null, .int 0, .int 0, .int 0, .int 0, .int 0, .int 0] 7 242 (fun u => wX6 E u out) := by
  obtain ⟨cz1, hcz1, hf⟩ := obd hf
  refine mtN_of (by decide) rfl (Nat.le_of_ble_eq_true rfl) (fun p e s m below meth c A ls h0 X hr hin hP hD hS hl => ?_)
  have hx := X.1.1
  have hb := X.1.2.1
  refine lv_aload_n hx hb dX6_init_0 rfl (lv_at hl 0 rfl) ?_
  refine r_obj X hl.1 ml_X6_3 (Nat.le_of_ble_eq_true rfl) (Nat.le_of_ble_eq_true rfl) dX6_init_1 ?_
  refine lv_aload_n hx hb dX6_init_4 rfl (lv_at hl 0 rfl) ?_
  refine r_newI X hl.1 hP hD hS (ci := 7) (fs := [.int 0, .null, .int 0, .int 0, .int 0, .int 0]) rfl inc_X7 tyX7 tyX7_ok ck_X6_9 ins_X7 ini_X7 rfl (fun j hj => by
      match j, hj with
      | 0, _ => rfl
      | 1, _ => rfl
      | 2, _ => rfl
      | 3, _ => rfl
      | 4, _ => rfl
      | 5, _ => rfl
      | k + 6, h => omega) (c_X7_init l E) cd_X7_init ml_X6_11 im_X7_init rfl (by decide +kernel) ⟨rfl, rfl⟩ ⟨(Nat.le_of_ble_eq_true rfl), (Nat.le_of_ble_eq_true rfl)⟩ (Nat.le_of_ble_eq_true rfl) (Nat.le_of_ble_eq_true rfl) (Nat.le_of_ble_eq_true rfl) dX6_init_5 dX6_init_8 dX6_init_9 (fun u1 H locs hP hD hS => ?_)
  refine r_putF (w' := ([(h0, .inr (6, [.ref (u1 0), .null, .int 0, .int 0, .int 0, .int 0, .int 0, .int 0]))] : va_W) ++ wX7 E u1 sgz) X hin hP hD hS 0 rfl rfl inc_X6 tyX6 tyX6_ok nmX6 0 (by decide) fl_X6_12 rfl rfl rfl rfl (Nat.le_of_ble_eq_true rfl) rfl dX6_init_12 (fun H locs hP hD hS => ?_)
  refine lv_aload_n hx hb dX6_init_15 rfl (lv_at hl 0 rfl) ?_
  refine r_newI X hl.1 hP hD hS (ci := 1) (fs := [.int 0, .int 0, .int 0, .null, .null]) rfl inc_X1 tyX1 tyX1_ok ck_X6_18 ins_X1 ini_X1 rfl (fun j hj => by
      match j, hj with
      | 0, _ => rfl
      | 1, _ => rfl
      | 2, _ => rfl
      | 3, _ => rfl
      | 4, _ => rfl
      | k + 5, h => omega) (c_X1_init l E hcz1) cd_X1_init ml_X6_20 im_X1_init rfl (by decide +kernel) ⟨rfl, rfl⟩ ⟨(Nat.le_of_ble_eq_true rfl), (Nat.le_of_ble_eq_true rfl)⟩ (Nat.le_of_ble_eq_true rfl) (Nat.le_of_ble_eq_true rfl) (Nat.le_of_ble_eq_true rfl) dX6_init_16 dX6_init_19 dX6_init_20 (fun u2 H locs hP hD hS => ?_)
  refine r_putF (w' := ([(h0, .inr (6, [.ref (u1 0), .ref (u2 0), .int 0, .int 0, .int 0, .int 0, .int 0, .int 0]))] : va_W) ++ wX7 E u1 sgz ++ wX1 E u2 cz1) X hin hP hD hS 0 rfl rfl inc_X6 tyX6 tyX6_ok nmX6 1 (by decide) fl_X6_21 rfl rfl rfl rfl (Nat.le_of_ble_eq_true rfl) rfl dX6_init_23 (fun H locs hP hD hS => ?_)
  refine lv_aload_n hx hb dX6_init_26 rfl (lv_at hl 0 rfl) ?_
  refine lv_iconst (v := 0) hx hb dX6_init_27 (by decide) ?_
  refine r_put (w' := ([(h0, .inr (6, [.ref (u1 0), .ref (u2 0), .int 0, .int 0, .int 0, .int 0, .int 0, .int 0]))] : va_W) ++ wX7 E u1 sgz ++ wX1 E u2 cz1) X hP hD hS 0 rfl rfl inc_X6 tyX6 tyX6_ok nmX6 2 (by decide) fl_X6_25 rfl (ty := .int) rfl rfl rfl (Nat.le_of_ble_eq_true rfl) rfl dX6_init_28 (fun H locs hP hD hS => ?_)
  refine lv_aload_n hx hb dX6_init_31 rfl (lv_at hl 0 rfl) ?_
  refine lv_iconst (v := 0) hx hb dX6_init_32 (by decide) ?_
  refine r_put (w' := ([(h0, .inr (6, [.ref (u1 0), .ref (u2 0), .int 0, .int 0, .int 0, .int 0, .int 0, .int 0]))] : va_W) ++ wX7 E u1 sgz ++ wX1 E u2 cz1) X hP hD hS 0 rfl rfl inc_X6 tyX6 tyX6_ok nmX6 3 (by decide) fl_X6_29 rfl (ty := .int) rfl rfl rfl (Nat.le_of_ble_eq_true rfl) rfl dX6_init_33 (fun H locs hP hD hS => ?_)
  refine lv_aload_n hx hb dX6_init_36 rfl (lv_at hl 0 rfl) ?_
  refine lv_iconst (v := 0) hx hb dX6_init_37 (by decide) ?_
  refine r_put (w' := ([(h0, .inr (6, [.ref (u1 0), .ref (u2 0), .int 0, .int 0, .int 0, .int 0, .int 0, .int 0]))] : va_W) ++ wX7 E u1 sgz ++ wX1 E u2 cz1) X hP hD hS 0 rfl rfl inc_X6 tyX6 tyX6_ok nmX6 4 (by decide) fl_X6_32 rfl (ty := .int) rfl rfl rfl (Nat.le_of_ble_eq_true rfl) rfl dX6_init_38 (fun H locs hP hD hS => ?_)
  refine lv_aload_n hx hb dX6_init_41 rfl (lv_at hl 0 rfl) ?_
  refine lv_iconst (v := 0) hx hb dX6_init_42 (by decide) ?_
  refine r_put (w' := ([(h0, .inr (6, [.ref (u1 0), .ref (u2 0), .int 0, .int 0, .int 0, .int 0, .int 0, .int 0]))] : va_W) ++ wX7 E u1 sgz ++ wX1 E u2 cz1) X hP hD hS 0 rfl rfl inc_X6 tyX6 tyX6_ok nmX6 5 (by decide) fl_X6_35 rfl (ty := .int) rfl rfl rfl (Nat.le_of_ble_eq_true rfl) rfl dX6_init_43 (fun H locs hP hD hS => ?_)
  refine lv_aload_n hx hb dX6_init_46 rfl (lv_at hl 0 rfl) ?_
  refine lv_iconst (v := 0) hx hb dX6_init_47 (by decide) ?_
  refine r_put (w' := ([(h0, .inr (6, [.ref (u1 0), .ref (u2 0), .int 0, .int 0, .int 0, .int 0, .int 0, .int 0]))] : va_W) ++ wX7 E u1 sgz ++ wX1 E u2 cz1) X hP hD hS 0 rfl rfl inc_X6 tyX6 tyX6_ok nmX6 6 (by decide) fl_X6_38 rfl (ty := .int) rfl rfl rfl (Nat.le_of_ble_eq_true rfl) rfl dX6_init_48 (fun H locs hP hD hS => ?_)
  refine lv_aload_n hx hb dX6_init_51 rfl (lv_at hl 0 rfl) ?_
  refine lv_iconst (v := 0) hx hb dX6_init_52 (by decide) ?_
  refine r_put (w' := ([(h0, .inr (6, [.ref (u1 0), .ref (u2 0), .int 0, .int 0, .int 0, .int 0, .int 0, .int 0]))] : va_W) ++ wX7 E u1 sgz ++ wX1 E u2 cz1) X hP hD hS 0 rfl rfl inc_X6 tyX6 tyX6_ok nmX6 7 (by decide) fl_X6_41 rfl (ty := .boolean) rfl rfl rfl (Nat.le_of_ble_eq_true rfl) rfl dX6_init_53 (fun H locs hP hD hS => ?_)
  have hP : va_P E.1 vwCl (wX6 E (fun k => if k = 0 then h0 else if k < 3 then u1 (k - 1) else u2 (k - 3)) (sg_sp sgz 3 5 cz1)) H := hP
  have hD : va_D A (wX6 E (fun k => if k = 0 then h0 else if k < 3 then u1 (k - 1) else u2 (k - 3)) (sg_sp sgz 3 5 cz1)) := hD
  have ho := Option.some.inj hf
  have hw := congrArg (fun o : Sg => wX6 E (fun k => if k = 0 then h0 else if k < 3 then u1 (k - 1) else u2 (k - 3)) o) ho
  exact r_nret (wf := (fun u => wX6 E u out)) (u := (fun k => if k = 0 then h0 else if k < 3 then u1 (k - 1) else u2 (k - 3))) X hr rfl hP hD hS hw dX6_init_56
def rm_X5_init : Room := { frames := 2, cells := 21, slots := 272, locals := 40 }
set_option maxHeartbeats 4000000 in
set_option maxRecDepth 100000 in
theorem c_X5_init (l : Launch) (E : Ev) : MtN l yX5_init cX5_init 2 rm_X5_init E 5 [.int 0, .null, .null, .null, .int 0] 21 272 (fun u => wX5 E u sgz) := by
  refine mtN_of (by decide) rfl (Nat.le_of_ble_eq_true rfl) (fun p e s m below meth c A ls h0 X hr hin hP hD hS hl => ?_)
  have hx := X.1.1
  have hb := X.1.2.1
  refine lv_aload_n hx hb dX5_init_0 rfl (lv_at hl 0 rfl) ?_
  refine r_obj X hl.1 ml_X5_3 (Nat.le_of_ble_eq_true rfl) (Nat.le_of_ble_eq_true rfl) dX5_init_1 ?_
  refine lv_aload_n hx hb dX5_init_4 rfl (lv_at hl 0 rfl) ?_
  refine lv_iconst (v := 0) hx hb dX5_init_5 (by decide) ?_
  refine r_put (w' := ([(h0, .inr (5, [.int 0, .null, .null, .null, .int 0]))] : va_W)) X hP hD hS 0 rfl rfl inc_X5 tyX5 tyX5_ok nmX5 0 (by decide) fl_X5_9 rfl (ty := .int) rfl rfl rfl (Nat.le_of_ble_eq_true rfl) rfl dX5_init_6 (fun H locs hP hD hS => ?_)
  refine lv_aload_n hx hb dX5_init_9 rfl (lv_at hl 0 rfl) ?_
  refine lv_iconst (v := 3) hx hb dX5_init_10 (by decide) ?_
  refine r_newi X hP hD hS (N := 3) (by decide) (by decide) (Nat.le_of_ble_eq_true rfl) (Nat.le_of_ble_eq_true rfl) (Nat.le_of_ble_eq_true rfl) dX5_init_11 (fun q1 H hP hD hS => ?_)
  refine r_putF (w' := ([(h0, .inr (5, [.int 0, .ref q1, .null, .null, .int 0]))] : va_W) ++ [(q1, .inl (E.2.1 0, 3, .inl (sgz 0)))]) X hin hP hD hS 0 rfl rfl inc_X5 tyX5 tyX5_ok nmX5 1 (by decide) fl_X5_15 rfl rfl rfl rfl (Nat.le_of_ble_eq_true rfl) rfl dX5_init_13 (fun H locs hP hD hS => ?_)
  refine lv_aload_n hx hb dX5_init_16 rfl (lv_at hl 0 rfl) ?_
  refine lv_iconst (v := 2) hx hb dX5_init_17 (by decide) ?_
  refine r_newi X hP hD hS (N := 2) (by decide) (by decide) (Nat.le_of_ble_eq_true rfl) (Nat.le_of_ble_eq_true rfl) (Nat.le_of_ble_eq_true rfl) dX5_init_18 (fun q2 H hP hD hS => ?_)
  refine r_putF (w' := ([(h0, .inr (5, [.int 0, .ref q1, .ref q2, .null, .int 0]))] : va_W) ++ [(q1, .inl (E.2.1 0, 3, .inl (sgz 0)))] ++ [(q2, .inl (E.2.1 0, 2, .inl (sgz 0)))]) X hin hP hD hS 0 rfl rfl inc_X5 tyX5 tyX5_ok nmX5 2 (by decide) fl_X5_19 rfl rfl rfl rfl (Nat.le_of_ble_eq_true rfl) rfl dX5_init_20 (fun H locs hP hD hS => ?_)
  refine lv_aload_n hx hb dX5_init_23 rfl (lv_at hl 0 rfl) ?_
  refine lv_iconst (v := 3) hx hb dX5_init_24 (by decide) ?_
  refine r_newq (t0 := 3) X hP hD hS ck_X5_22 X.2.2.1.ao3 rfl (N := 3) (by decide) (by decide) (Nat.le_of_ble_eq_true rfl) (Nat.le_of_ble_eq_true rfl) (Nat.le_of_ble_eq_true rfl) dX5_init_25 (fun q3 H hP hD hS => ?_)
  refine r_putF (w' := ([(h0, .inr (5, [.int 0, .ref q1, .ref q2, .ref q3, .int 0]))] : va_W) ++ [(q1, .inl (E.2.1 0, 3, .inl (sgz 0)))] ++ [(q2, .inl (E.2.1 0, 2, .inl (sgz 0)))] ++ [(q3, .inl (E.2.1 3, 3, .inr (.inr (.inr (.inr (fun _ => none))))))]) X hin hP hD hS 0 rfl rfl inc_X5 tyX5 tyX5_ok nmX5 3 (by decide) fl_X5_24 rfl rfl rfl rfl (Nat.le_of_ble_eq_true rfl) rfl dX5_init_28 (fun H locs hP hD hS => ?_)
  refine lv_aload_n hx hb dX5_init_31 rfl (lv_at hl 0 rfl) ?_
  refine lv_iconst (v := 0) hx hb dX5_init_32 (by decide) ?_
  refine r_put (w' := ([(h0, .inr (5, [.int 0, .ref q1, .ref q2, .ref q3, .int 0]))] : va_W) ++ [(q1, .inl (E.2.1 0, 3, .inl (sgz 0)))] ++ [(q2, .inl (E.2.1 0, 2, .inl (sgz 0)))] ++ [(q3, .inl (E.2.1 3, 3, .inr (.inr (.inr (.inr (fun _ => none))))))]) X hP hD hS 0 rfl rfl inc_X5 tyX5 tyX5_ok nmX5 4 (by decide) fl_X5_28 rfl (ty := .boolean) rfl rfl rfl (Nat.le_of_ble_eq_true rfl) rfl dX5_init_33 (fun H locs hP hD hS => ?_)
  refine lv_iconst (v := 0) hx hb dX5_init_36 (by decide) ?_
  refine lv_istore_n (lv' := [(1, .int 0), (0, .ref h0)]) hx hb dX5_init_37 rfl hl (by decide) rfl (fun ls hl => ?_)
  refine lv_iload_n hx hb dX5_init_38 rfl (lv_at hl 0 rfl) ?_
  refine lv_iconst (v := 2) hx hb dX5_init_39 (by decide) ?_
  refine lv_icmp_gt (tgt := 62) hx hb dX5_init_40 (by decide) (fun c => absurd c (by decide)) (fun c => ?_)
  refine lv_aload_n hx hb dX5_init_43 rfl (lv_at hl 1 rfl) ?_
  refine r_get X hP 0 rfl rfl inc_X5 3 (by decide) fl_X5_24 rfl dX5_init_44 ?_
  refine lv_iload_n hx hb dX5_init_47 rfl (lv_at hl 0 rfl) ?_
  refine r_newI X hl.1 hP hD hS (ci := 3) (fs := [.int 0, .int 0, .int 0, .null, .null, .null, .null, .null]) rfl inc_X3 tyX3 tyX3_ok ck_X5_22 ins_X3 ini_X3 rfl (fun j hj => by
      match j, hj with
      | 0, _ => rfl
      | 1, _ => rfl
      | 2, _ => rfl
      | 3, _ => rfl
      | 4, _ => rfl
      | 5, _ => rfl
      | 6, _ => rfl
      | 7, _ => rfl
      | k + 8, h => omega) (c_X3_init l E) cd_X3_init ml_X5_32 im_X3_init rfl (by decide +kernel) ⟨rfl, rfl⟩ ⟨(Nat.le_of_ble_eq_true rfl), (Nat.le_of_ble_eq_true rfl)⟩ (Nat.le_of_ble_eq_true rfl) (Nat.le_of_ble_eq_true rfl) (Nat.le_of_ble_eq_true rfl) dX5_init_48 dX5_init_51 dX5_init_52 (fun u4 H locs hP hD hS => ?_)
  refine r_astq (w' := ([(h0, .inr (5, [.int 0, .ref q1, .ref q2, .ref q3, .int 0]))] : va_W) ++ [(q1, .inl (E.2.1 0, 3, .inl (sgz 0)))] ++ [(q2, .inl (E.2.1 0, 2, .inl (sgz 0)))] ++ [(q3, .inl (E.2.1 3, 3, .inr (.inr (.inr (.inr (va_up (fun _ => none) (0 : Int32).toNatClampNeg (some (u4 0))))))))] ++ wX3 E u4 sgz) X hP hD hS 3 3 4 3 rfl rfl rfl rfl (vin_d rfl) rfl dX5_init_55 (fun H locs hP hD hS => ?_)
  refine lv_iinc (v := 1) (lv' := [(1, .int 1), (0, .ref h0)]) hx hb dX5_init_56 hl (k := 0) rfl (by decide) (by decide) rfl (fun ls hl => ?_)
  refine lv_goto (tgt := 38) hx hb dX5_init_59 (by decide) ?_
  refine lv_iload_n hx hb dX5_init_38 rfl (lv_at hl 0 rfl) ?_
  refine lv_iconst (v := 2) hx hb dX5_init_39 (by decide) ?_
  refine lv_icmp_gt (tgt := 62) hx hb dX5_init_40 (by decide) (fun c => absurd c (by decide)) (fun c => ?_)
  refine lv_aload_n hx hb dX5_init_43 rfl (lv_at hl 1 rfl) ?_
  refine r_get X hP 0 rfl rfl inc_X5 3 (by decide) fl_X5_24 rfl dX5_init_44 ?_
  refine lv_iload_n hx hb dX5_init_47 rfl (lv_at hl 0 rfl) ?_
  refine r_newI X hl.1 hP hD hS (ci := 3) (fs := [.int 0, .int 0, .int 0, .null, .null, .null, .null, .null]) rfl inc_X3 tyX3 tyX3_ok ck_X5_22 ins_X3 ini_X3 rfl (fun j hj => by
      match j, hj with
      | 0, _ => rfl
      | 1, _ => rfl
      | 2, _ => rfl
      | 3, _ => rfl
      | 4, _ => rfl
      | 5, _ => rfl
      | 6, _ => rfl
      | 7, _ => rfl
      | k + 8, h => omega) (c_X3_init l E) cd_X3_init ml_X5_32 im_X3_init rfl (by decide +kernel) ⟨rfl, rfl⟩ ⟨(Nat.le_of_ble_eq_true rfl), (Nat.le_of_ble_eq_true rfl)⟩ (Nat.le_of_ble_eq_true rfl) (Nat.le_of_ble_eq_true rfl) (Nat.le_of_ble_eq_true rfl) dX5_init_48 dX5_init_51 dX5_init_52 (fun u5 H locs hP hD hS => ?_)
  refine r_astq (w' := ([(h0, .inr (5, [.int 0, .ref q1, .ref q2, .ref q3, .int 0]))] : va_W) ++ [(q1, .inl (E.2.1 0, 3, .inl (sgz 0)))] ++ [(q2, .inl (E.2.1 0, 2, .inl (sgz 0)))] ++ [(q3, .inl (E.2.1 3, 3, .inr (.inr (.inr (.inr (va_up (va_up (fun _ => none) (0 : Int32).toNatClampNeg (some (u4 0))) (1 : Int32).toNatClampNeg (some (u5 0))))))))] ++ wX3 E u4 sgz ++ wX3 E u5 sgz) X hP hD hS 3 3 10 3 rfl rfl rfl rfl (vin_d rfl) rfl dX5_init_55 (fun H locs hP hD hS => ?_)
  refine lv_iinc (v := 2) (lv' := [(1, .int 2), (0, .ref h0)]) hx hb dX5_init_56 hl (k := 0) rfl (by decide) (by decide) rfl (fun ls hl => ?_)
  refine lv_goto (tgt := 38) hx hb dX5_init_59 (by decide) ?_
  refine lv_iload_n hx hb dX5_init_38 rfl (lv_at hl 0 rfl) ?_
  refine lv_iconst (v := 2) hx hb dX5_init_39 (by decide) ?_
  refine lv_icmp_gt (tgt := 62) hx hb dX5_init_40 (by decide) (fun c => absurd c (by decide)) (fun c => ?_)
  refine lv_aload_n hx hb dX5_init_43 rfl (lv_at hl 1 rfl) ?_
  refine r_get X hP 0 rfl rfl inc_X5 3 (by decide) fl_X5_24 rfl dX5_init_44 ?_
  refine lv_iload_n hx hb dX5_init_47 rfl (lv_at hl 0 rfl) ?_
  refine r_newI X hl.1 hP hD hS (ci := 3) (fs := [.int 0, .int 0, .int 0, .null, .null, .null, .null, .null]) rfl inc_X3 tyX3 tyX3_ok ck_X5_22 ins_X3 ini_X3 rfl (fun j hj => by
      match j, hj with
      | 0, _ => rfl
      | 1, _ => rfl
      | 2, _ => rfl
      | 3, _ => rfl
      | 4, _ => rfl
      | 5, _ => rfl
      | 6, _ => rfl
      | 7, _ => rfl
      | k + 8, h => omega) (c_X3_init l E) cd_X3_init ml_X5_32 im_X3_init rfl (by decide +kernel) ⟨rfl, rfl⟩ ⟨(Nat.le_of_ble_eq_true rfl), (Nat.le_of_ble_eq_true rfl)⟩ (Nat.le_of_ble_eq_true rfl) (Nat.le_of_ble_eq_true rfl) (Nat.le_of_ble_eq_true rfl) dX5_init_48 dX5_init_51 dX5_init_52 (fun u6 H locs hP hD hS => ?_)
  refine r_astq (w' := ([(h0, .inr (5, [.int 0, .ref q1, .ref q2, .ref q3, .int 0]))] : va_W) ++ [(q1, .inl (E.2.1 0, 3, .inl (sgz 0)))] ++ [(q2, .inl (E.2.1 0, 2, .inl (sgz 0)))] ++ [(q3, .inl (E.2.1 3, 3, .inr (.inr (.inr (.inr (va_up (va_up (va_up (fun _ => none) (0 : Int32).toNatClampNeg (some (u4 0))) (1 : Int32).toNatClampNeg (some (u5 0))) (2 : Int32).toNatClampNeg (some (u6 0))))))))] ++ wX3 E u4 sgz ++ wX3 E u5 sgz ++ wX3 E u6 sgz) X hP hD hS 3 3 16 3 rfl rfl rfl rfl (vin_d rfl) rfl dX5_init_55 (fun H locs hP hD hS => ?_)
  refine lv_iinc (v := 3) (lv' := [(1, .int 3), (0, .ref h0)]) hx hb dX5_init_56 hl (k := 0) rfl (by decide) (by decide) rfl (fun ls hl => ?_)
  refine lv_goto (tgt := 38) hx hb dX5_init_59 (by decide) ?_
  refine lv_iload_n hx hb dX5_init_38 rfl (lv_at hl 0 rfl) ?_
  refine lv_iconst (v := 2) hx hb dX5_init_39 (by decide) ?_
  refine lv_icmp_gt (tgt := 62) hx hb dX5_init_40 (by decide) (fun c => ?_) (fun c => absurd (by decide) c)
  have hP : va_P E.1 vwCl (wX5 E (fun k => if k = 0 then h0 else if k < 2 then q1 else if k < 3 then q2 else if k < 4 then q3 else if k < 10 then u4 (k - 4) else if k < 16 then u5 (k - 10) else u6 (k - 16)) sgz) H := hP
  have hD : va_D A (wX5 E (fun k => if k = 0 then h0 else if k < 2 then q1 else if k < 3 then q2 else if k < 4 then q3 else if k < 10 then u4 (k - 4) else if k < 16 then u5 (k - 10) else u6 (k - 16)) sgz) := hD
  exact r_nret (wf := (fun u => wX5 E u sgz)) (u := (fun k => if k = 0 then h0 else if k < 2 then q1 else if k < 3 then q2 else if k < 4 then q3 else if k < 10 then u4 (k - 4) else if k < 16 then u5 (k - 10) else u6 (k - 16))) X hr rfl hP hD hS rfl dX5_init_62
noncomputable def s_X9_init_108 (x2 : Int32) (g3 : Sg) (k4 : Int32 → Sg → Option (Sg)) : Option (Sg) :=
  if 35 ≤ x2 then
    some g3
  else
    chk x2 35 <|
    chk x2 35 <|
    k4 (x2 + 1) (sg_st g3 2 (x2 : Int32).toNatClampNeg (g3 3 (x2 : Int32).toNatClampNeg))
noncomputable def f_X9_init : Option (Sg) :=
  (f_X9_reads sgz 0).bind fun z1 =>
  lc2 (s_X9_init_108) 1000 0 z1.2
def rm_X9_init : Room := { frames := 7, cells := 12, slots := 700, locals := 151 }
set_option maxHeartbeats 4000000 in
set_option maxRecDepth 100000 in
theorem c_X9_init (l : Launch) (E : Ev) {out : Sg} (hf : f_X9_init = some out) : MtN l yX9_init cX9_init 2 rm_X9_init E 9 [.long 0, .null, .int 0, .null, .null, .null, .null, .null, .null, .null, .int 0, .int 0, .int 0, .int 0, .int 0, .null, .null, .null, .null, .int 0, .int 0, .int 0] 12 700 (fun u => wX9 E u out 0) := by
  refine mtN_of (by decide) rfl (Nat.le_of_ble_eq_true rfl) (fun p e s m below meth c A ls h0 X hr hin hP hD hS hl => ?_)
  have hx := X.1.1
  have hb := X.1.2.1
  refine lv_aload_n hx hb dX9_init_0 rfl (lv_at hl 0 rfl) ?_
  refine r_obj X hl.1 ml_X9_1 (Nat.le_of_ble_eq_true rfl) (Nat.le_of_ble_eq_true rfl) dX9_init_1 ?_
  refine lv_aload_n hx hb dX9_init_4 rfl (lv_at hl 0 rfl) ?_
  refine lv_sipush (v := 200) hx hb dX9_init_5 (by decide) ?_
  refine r_newi X hP hD hS (N := 200) (by decide) (by decide) (Nat.le_of_ble_eq_true rfl) (Nat.le_of_ble_eq_true rfl) (Nat.le_of_ble_eq_true rfl) dX9_init_8 (fun q1 H hP hD hS => ?_)
  refine r_putF (w' := ([(h0, .inr (9, [.long 0, .ref q1, .int 0, .null, .null, .null, .null, .null, .null, .null, .int 0, .int 0, .int 0, .int 0, .int 0, .null, .null, .null, .null, .int 0, .int 0, .int 0]))] : va_W) ++ [(q1, .inl (E.2.1 0, 200, .inl (sgz 0)))]) X hin hP hD hS 0 rfl rfl inc_X9 tyX9 tyX9_ok nmX9 1 (by decide) fl_X9_7 rfl rfl rfl rfl (Nat.le_of_ble_eq_true rfl) rfl dX9_init_10 (fun H locs hP hD hS => ?_)
  refine lv_aload_n hx hb dX9_init_13 rfl (lv_at hl 0 rfl) ?_
  refine lv_bipush (v := 35) hx hb dX9_init_14 (by decide) ?_
  refine r_newi X hP hD hS (N := 35) (by decide) (by decide) (Nat.le_of_ble_eq_true rfl) (Nat.le_of_ble_eq_true rfl) (Nat.le_of_ble_eq_true rfl) dX9_init_16 (fun q2 H hP hD hS => ?_)
  refine r_putF (w' := ([(h0, .inr (9, [.long 0, .ref q1, .int 0, .ref q2, .null, .null, .null, .null, .null, .null, .int 0, .int 0, .int 0, .int 0, .int 0, .null, .null, .null, .null, .int 0, .int 0, .int 0]))] : va_W) ++ [(q1, .inl (E.2.1 0, 200, .inl (sgz 0)))] ++ [(q2, .inl (E.2.1 0, 35, .inl (sgz 0)))]) X hin hP hD hS 0 rfl rfl inc_X9 tyX9 tyX9_ok nmX9 3 (by decide) fl_X9_13 rfl rfl rfl rfl (Nat.le_of_ble_eq_true rfl) rfl dX9_init_18 (fun H locs hP hD hS => ?_)
  refine lv_aload_n hx hb dX9_init_21 rfl (lv_at hl 0 rfl) ?_
  refine lv_bipush (v := 35) hx hb dX9_init_22 (by decide) ?_
  refine r_newi X hP hD hS (N := 35) (by decide) (by decide) (Nat.le_of_ble_eq_true rfl) (Nat.le_of_ble_eq_true rfl) (Nat.le_of_ble_eq_true rfl) dX9_init_24 (fun q3 H hP hD hS => ?_)
  refine r_putF (w' := ([(h0, .inr (9, [.long 0, .ref q1, .int 0, .ref q2, .ref q3, .null, .null, .null, .null, .null, .int 0, .int 0, .int 0, .int 0, .int 0, .null, .null, .null, .null, .int 0, .int 0, .int 0]))] : va_W) ++ [(q1, .inl (E.2.1 0, 200, .inl (sgz 0)))] ++ [(q2, .inl (E.2.1 0, 35, .inl (sgz 0)))] ++ [(q3, .inl (E.2.1 0, 35, .inl (sgz 0)))]) X hin hP hD hS 0 rfl rfl inc_X9 tyX9 tyX9_ok nmX9 4 (by decide) fl_X9_16 rfl rfl rfl rfl (Nat.le_of_ble_eq_true rfl) rfl dX9_init_26 (fun H locs hP hD hS => ?_)
  refine lv_aload_n hx hb dX9_init_29 rfl (lv_at hl 0 rfl) ?_
  refine lv_bipush (v := 40) hx hb dX9_init_30 (by decide) ?_
  refine r_newi X hP hD hS (N := 40) (by decide) (by decide) (Nat.le_of_ble_eq_true rfl) (Nat.le_of_ble_eq_true rfl) (Nat.le_of_ble_eq_true rfl) dX9_init_32 (fun q4 H hP hD hS => ?_)
  refine r_putF (w' := ([(h0, .inr (9, [.long 0, .ref q1, .int 0, .ref q2, .ref q3, .ref q4, .null, .null, .null, .null, .int 0, .int 0, .int 0, .int 0, .int 0, .null, .null, .null, .null, .int 0, .int 0, .int 0]))] : va_W) ++ [(q1, .inl (E.2.1 0, 200, .inl (sgz 0)))] ++ [(q2, .inl (E.2.1 0, 35, .inl (sgz 0)))] ++ [(q3, .inl (E.2.1 0, 35, .inl (sgz 0)))] ++ [(q4, .inl (E.2.1 0, 40, .inl (sgz 0)))]) X hin hP hD hS 0 rfl rfl inc_X9 tyX9 tyX9_ok nmX9 5 (by decide) fl_X9_19 rfl rfl rfl rfl (Nat.le_of_ble_eq_true rfl) rfl dX9_init_34 (fun H locs hP hD hS => ?_)
  refine lv_aload_n hx hb dX9_init_37 rfl (lv_at hl 0 rfl) ?_
  refine lv_bipush (v := 80) hx hb dX9_init_38 (by decide) ?_
  refine r_newi X hP hD hS (N := 80) (by decide) (by decide) (Nat.le_of_ble_eq_true rfl) (Nat.le_of_ble_eq_true rfl) (Nat.le_of_ble_eq_true rfl) dX9_init_40 (fun q5 H hP hD hS => ?_)
  refine r_putF (w' := ([(h0, .inr (9, [.long 0, .ref q1, .int 0, .ref q2, .ref q3, .ref q4, .ref q5, .null, .null, .null, .int 0, .int 0, .int 0, .int 0, .int 0, .null, .null, .null, .null, .int 0, .int 0, .int 0]))] : va_W) ++ [(q1, .inl (E.2.1 0, 200, .inl (sgz 0)))] ++ [(q2, .inl (E.2.1 0, 35, .inl (sgz 0)))] ++ [(q3, .inl (E.2.1 0, 35, .inl (sgz 0)))] ++ [(q4, .inl (E.2.1 0, 40, .inl (sgz 0)))] ++ [(q5, .inl (E.2.1 0, 80, .inl (sgz 0)))]) X hin hP hD hS 0 rfl rfl inc_X9 tyX9 tyX9_ok nmX9 6 (by decide) fl_X9_22 rfl rfl rfl rfl (Nat.le_of_ble_eq_true rfl) rfl dX9_init_42 (fun H locs hP hD hS => ?_)
  refine lv_aload_n hx hb dX9_init_45 rfl (lv_at hl 0 rfl) ?_
  refine lv_iconst (v := 2) hx hb dX9_init_46 (by decide) ?_
  refine r_newz X hP hD hS (N := 2) (by decide) (by decide) (Nat.le_of_ble_eq_true rfl) (Nat.le_of_ble_eq_true rfl) (Nat.le_of_ble_eq_true rfl) dX9_init_47 (fun q6 H hP hD hS => ?_)
  refine r_putF (w' := ([(h0, .inr (9, [.long 0, .ref q1, .int 0, .ref q2, .ref q3, .ref q4, .ref q5, .ref q6, .null, .null, .int 0, .int 0, .int 0, .int 0, .int 0, .null, .null, .null, .null, .int 0, .int 0, .int 0]))] : va_W) ++ [(q1, .inl (E.2.1 0, 200, .inl (sgz 0)))] ++ [(q2, .inl (E.2.1 0, 35, .inl (sgz 0)))] ++ [(q3, .inl (E.2.1 0, 35, .inl (sgz 0)))] ++ [(q4, .inl (E.2.1 0, 40, .inl (sgz 0)))] ++ [(q5, .inl (E.2.1 0, 80, .inl (sgz 0)))] ++ [(q6, .inl (E.2.1 1, 2, .inl (sgz 0)))]) X hin hP hD hS 0 rfl rfl inc_X9 tyX9 tyX9_ok nmX9 7 (by decide) fl_X9_25 rfl rfl rfl rfl (Nat.le_of_ble_eq_true rfl) rfl dX9_init_49 (fun H locs hP hD hS => ?_)
  refine lv_aload_n hx hb dX9_init_52 rfl (lv_at hl 0 rfl) ?_
  refine lv_bipush (v := 6) hx hb dX9_init_53 (by decide) ?_
  refine r_newi X hP hD hS (N := 6) (by decide) (by decide) (Nat.le_of_ble_eq_true rfl) (Nat.le_of_ble_eq_true rfl) (Nat.le_of_ble_eq_true rfl) dX9_init_55 (fun q7 H hP hD hS => ?_)
  refine r_putF (w' := ([(h0, .inr (9, [.long 0, .ref q1, .int 0, .ref q2, .ref q3, .ref q4, .ref q5, .ref q6, .ref q7, .null, .int 0, .int 0, .int 0, .int 0, .int 0, .null, .null, .null, .null, .int 0, .int 0, .int 0]))] : va_W) ++ [(q1, .inl (E.2.1 0, 200, .inl (sgz 0)))] ++ [(q2, .inl (E.2.1 0, 35, .inl (sgz 0)))] ++ [(q3, .inl (E.2.1 0, 35, .inl (sgz 0)))] ++ [(q4, .inl (E.2.1 0, 40, .inl (sgz 0)))] ++ [(q5, .inl (E.2.1 0, 80, .inl (sgz 0)))] ++ [(q6, .inl (E.2.1 1, 2, .inl (sgz 0)))] ++ [(q7, .inl (E.2.1 0, 6, .inl (sgz 0)))]) X hin hP hD hS 0 rfl rfl inc_X9 tyX9 tyX9_ok nmX9 8 (by decide) fl_X9_29 rfl rfl rfl rfl (Nat.le_of_ble_eq_true rfl) rfl dX9_init_57 (fun H locs hP hD hS => ?_)
  refine lv_aload_n hx hb dX9_init_60 rfl (lv_at hl 0 rfl) ?_
  refine lv_bipush (v := 6) hx hb dX9_init_61 (by decide) ?_
  refine r_newi X hP hD hS (N := 6) (by decide) (by decide) (Nat.le_of_ble_eq_true rfl) (Nat.le_of_ble_eq_true rfl) (Nat.le_of_ble_eq_true rfl) dX9_init_63 (fun q8 H hP hD hS => ?_)
  refine r_putF (w' := ([(h0, .inr (9, [.long 0, .ref q1, .int 0, .ref q2, .ref q3, .ref q4, .ref q5, .ref q6, .ref q7, .ref q8, .int 0, .int 0, .int 0, .int 0, .int 0, .null, .null, .null, .null, .int 0, .int 0, .int 0]))] : va_W) ++ [(q1, .inl (E.2.1 0, 200, .inl (sgz 0)))] ++ [(q2, .inl (E.2.1 0, 35, .inl (sgz 0)))] ++ [(q3, .inl (E.2.1 0, 35, .inl (sgz 0)))] ++ [(q4, .inl (E.2.1 0, 40, .inl (sgz 0)))] ++ [(q5, .inl (E.2.1 0, 80, .inl (sgz 0)))] ++ [(q6, .inl (E.2.1 1, 2, .inl (sgz 0)))] ++ [(q7, .inl (E.2.1 0, 6, .inl (sgz 0)))] ++ [(q8, .inl (E.2.1 0, 6, .inl (sgz 0)))]) X hin hP hD hS 0 rfl rfl inc_X9 tyX9 tyX9_ok nmX9 9 (by decide) fl_X9_32 rfl rfl rfl rfl (Nat.le_of_ble_eq_true rfl) rfl dX9_init_65 (fun H locs hP hD hS => ?_)
  refine lv_aload_n hx hb dX9_init_68 rfl (lv_at hl 0 rfl) ?_
  refine lv_sipush (v := 256) hx hb dX9_init_69 (by decide) ?_
  refine r_newi X hP hD hS (N := 256) (by decide) (by decide) (Nat.le_of_ble_eq_true rfl) (Nat.le_of_ble_eq_true rfl) (Nat.le_of_ble_eq_true rfl) dX9_init_72 (fun q9 H hP hD hS => ?_)
  refine r_putF (w' := ([(h0, .inr (9, [.long 0, .ref q1, .int 0, .ref q2, .ref q3, .ref q4, .ref q5, .ref q6, .ref q7, .ref q8, .int 0, .int 0, .int 0, .int 0, .int 0, .ref q9, .null, .null, .null, .int 0, .int 0, .int 0]))] : va_W) ++ [(q1, .inl (E.2.1 0, 200, .inl (sgz 0)))] ++ [(q2, .inl (E.2.1 0, 35, .inl (sgz 0)))] ++ [(q3, .inl (E.2.1 0, 35, .inl (sgz 0)))] ++ [(q4, .inl (E.2.1 0, 40, .inl (sgz 0)))] ++ [(q5, .inl (E.2.1 0, 80, .inl (sgz 0)))] ++ [(q6, .inl (E.2.1 1, 2, .inl (sgz 0)))] ++ [(q7, .inl (E.2.1 0, 6, .inl (sgz 0)))] ++ [(q8, .inl (E.2.1 0, 6, .inl (sgz 0)))] ++ [(q9, .inl (E.2.1 0, 256, .inl (sgz 0)))]) X hin hP hD hS 0 rfl rfl inc_X9 tyX9 tyX9_ok nmX9 15 (by decide) fl_X9_35 rfl rfl rfl rfl (Nat.le_of_ble_eq_true rfl) rfl dX9_init_74 (fun H locs hP hD hS => ?_)
  refine lv_aload_n hx hb dX9_init_77 rfl (lv_at hl 0 rfl) ?_
  refine lv_bipush (v := 8) hx hb dX9_init_78 (by decide) ?_
  refine r_newi X hP hD hS (N := 8) (by decide) (by decide) (Nat.le_of_ble_eq_true rfl) (Nat.le_of_ble_eq_true rfl) (Nat.le_of_ble_eq_true rfl) dX9_init_80 (fun q10 H hP hD hS => ?_)
  refine r_putF (w' := ([(h0, .inr (9, [.long 0, .ref q1, .int 0, .ref q2, .ref q3, .ref q4, .ref q5, .ref q6, .ref q7, .ref q8, .int 0, .int 0, .int 0, .int 0, .int 0, .ref q9, .ref q10, .null, .null, .int 0, .int 0, .int 0]))] : va_W) ++ [(q1, .inl (E.2.1 0, 200, .inl (sgz 0)))] ++ [(q2, .inl (E.2.1 0, 35, .inl (sgz 0)))] ++ [(q3, .inl (E.2.1 0, 35, .inl (sgz 0)))] ++ [(q4, .inl (E.2.1 0, 40, .inl (sgz 0)))] ++ [(q5, .inl (E.2.1 0, 80, .inl (sgz 0)))] ++ [(q6, .inl (E.2.1 1, 2, .inl (sgz 0)))] ++ [(q7, .inl (E.2.1 0, 6, .inl (sgz 0)))] ++ [(q8, .inl (E.2.1 0, 6, .inl (sgz 0)))] ++ [(q9, .inl (E.2.1 0, 256, .inl (sgz 0)))] ++ [(q10, .inl (E.2.1 0, 8, .inl (sgz 0)))]) X hin hP hD hS 0 rfl rfl inc_X9 tyX9 tyX9_ok nmX9 16 (by decide) fl_X9_38 rfl rfl rfl rfl (Nat.le_of_ble_eq_true rfl) rfl dX9_init_82 (fun H locs hP hD hS => ?_)
  refine lv_aload_n hx hb dX9_init_85 rfl (lv_at hl 0 rfl) ?_
  refine lv_bipush (v := 16) hx hb dX9_init_86 (by decide) ?_
  refine r_newz X hP hD hS (N := 16) (by decide) (by decide) (Nat.le_of_ble_eq_true rfl) (Nat.le_of_ble_eq_true rfl) (Nat.le_of_ble_eq_true rfl) dX9_init_88 (fun q11 H hP hD hS => ?_)
  refine r_putF (w' := ([(h0, .inr (9, [.long 0, .ref q1, .int 0, .ref q2, .ref q3, .ref q4, .ref q5, .ref q6, .ref q7, .ref q8, .int 0, .int 0, .int 0, .int 0, .int 0, .ref q9, .ref q10, .ref q11, .null, .int 0, .int 0, .int 0]))] : va_W) ++ [(q1, .inl (E.2.1 0, 200, .inl (sgz 0)))] ++ [(q2, .inl (E.2.1 0, 35, .inl (sgz 0)))] ++ [(q3, .inl (E.2.1 0, 35, .inl (sgz 0)))] ++ [(q4, .inl (E.2.1 0, 40, .inl (sgz 0)))] ++ [(q5, .inl (E.2.1 0, 80, .inl (sgz 0)))] ++ [(q6, .inl (E.2.1 1, 2, .inl (sgz 0)))] ++ [(q7, .inl (E.2.1 0, 6, .inl (sgz 0)))] ++ [(q8, .inl (E.2.1 0, 6, .inl (sgz 0)))] ++ [(q9, .inl (E.2.1 0, 256, .inl (sgz 0)))] ++ [(q10, .inl (E.2.1 0, 8, .inl (sgz 0)))] ++ [(q11, .inl (E.2.1 1, 16, .inl (sgz 0)))]) X hin hP hD hS 0 rfl rfl inc_X9 tyX9 tyX9_ok nmX9 17 (by decide) fl_X9_41 rfl rfl rfl rfl (Nat.le_of_ble_eq_true rfl) rfl dX9_init_90 (fun H locs hP hD hS => ?_)
  refine lv_aload_n hx hb dX9_init_93 rfl (lv_at hl 0 rfl) ?_
  refine lv_bipush (v := 16) hx hb dX9_init_94 (by decide) ?_
  refine r_newi X hP hD hS (N := 16) (by decide) (by decide) (Nat.le_of_ble_eq_true rfl) (Nat.le_of_ble_eq_true rfl) (Nat.le_of_ble_eq_true rfl) dX9_init_96 (fun q12 H hP hD hS => ?_)
  refine r_putF (w' := ([(h0, .inr (9, [.long 0, .ref q1, .int 0, .ref q2, .ref q3, .ref q4, .ref q5, .ref q6, .ref q7, .ref q8, .int 0, .int 0, .int 0, .int 0, .int 0, .ref q9, .ref q10, .ref q11, .ref q12, .int 0, .int 0, .int 0]))] : va_W) ++ [(q1, .inl (E.2.1 0, 200, .inl (sgz 0)))] ++ [(q2, .inl (E.2.1 0, 35, .inl (sgz 0)))] ++ [(q3, .inl (E.2.1 0, 35, .inl (sgz 0)))] ++ [(q4, .inl (E.2.1 0, 40, .inl (sgz 0)))] ++ [(q5, .inl (E.2.1 0, 80, .inl (sgz 0)))] ++ [(q6, .inl (E.2.1 1, 2, .inl (sgz 0)))] ++ [(q7, .inl (E.2.1 0, 6, .inl (sgz 0)))] ++ [(q8, .inl (E.2.1 0, 6, .inl (sgz 0)))] ++ [(q9, .inl (E.2.1 0, 256, .inl (sgz 0)))] ++ [(q10, .inl (E.2.1 0, 8, .inl (sgz 0)))] ++ [(q11, .inl (E.2.1 1, 16, .inl (sgz 0)))] ++ [(q12, .inl (E.2.1 0, 16, .inl (sgz 0)))]) X hin hP hD hS 0 rfl rfl inc_X9 tyX9 tyX9_ok nmX9 18 (by decide) fl_X9_44 rfl rfl rfl rfl (Nat.le_of_ble_eq_true rfl) rfl dX9_init_98 (fun H locs hP hD hS => ?_)
  have hP : va_P E.1 vwCl (wX9 E (fun k => if k = 0 then h0 else if k < 2 then q1 else if k < 3 then q2 else if k < 4 then q3 else if k < 5 then q4 else if k < 6 then q5 else if k < 7 then q6 else if k < 8 then q7 else if k < 9 then q8 else if k < 10 then q9 else if k < 11 then q10 else if k < 12 then q11 else q12) sgz 0) H := hP
  have hD : va_D A (wX9 E (fun k => if k = 0 then h0 else if k < 2 then q1 else if k < 3 then q2 else if k < 4 then q3 else if k < 5 then q4 else if k < 6 then q5 else if k < 7 then q6 else if k < 8 then q7 else if k < 9 then q8 else if k < 10 then q9 else if k < 11 then q10 else if k < 12 then q11 else q12) sgz 0) := hD
  have hu : (fun k => if k = 0 then h0 else if k < 2 then q1 else if k < 3 then q2 else if k < 4 then q3 else if k < 5 then q4 else if k < 6 then q5 else if k < 7 then q6 else if k < 8 then q7 else if k < 9 then q8 else if k < 10 then q9 else if k < 11 then q10 else if k < 12 then q11 else q12) 0 = h0 := rfl
  generalize (fun k => if k = 0 then h0 else if k < 2 then q1 else if k < 3 then q2 else if k < 4 then q3 else if k < 5 then q4 else if k < 6 then q5 else if k < 7 then q6 else if k < 8 then q7 else if k < 9 then q8 else if k < 10 then q9 else if k < 11 then q10 else if k < 12 then q11 else q12) = u at hP hD hu
  have hl : lv_has ls 2 [(0, .ref (u 0))] := by
    rw [hu]
    exact lv_sub hl [0] rfl
  refine lv_aload_n hx hb dX9_init_101 rfl (lv_at hl 0 rfl) ?_
  obtain ⟨z1, hz1, hf⟩ := obd hf
  refine cV_allI X (As := []) (rest := []) (c_X9_reads l E u sgz 0 hz1) pv_X9_reads ml_X9_47 ⟨rfl, rfl⟩ ⟨(Nat.le_of_ble_eq_true rfl), (Nat.le_of_ble_eq_true rfl)⟩ hP hD hS (wX9_g0_0 _ _ _ _) rfl (wX9_adr _ _ _ _ _ _) rfl hl.1 rfl (Nat.le_of_ble_eq_true rfl) dX9_init_102 ⟨Nat.le_refl _, Nat.le_refl _⟩ (fun H locs hP hD hS => ?_)
  refine lv_pop hx hb dX9_init_105 rfl ?_
  refine lv_iconst (v := 0) hx hb dX9_init_106 (by decide) ?_
  refine lv_istore_n (lv' := [(1, .int 0), (0, .ref (u 0))]) hx hb dX9_init_107 rfl hl (by decide) rfl (fun ls hl => ?_)
  have L4 := lc2_ind (o := out) (step := (s_X9_init_108)) (fun x2 g3 => ∀ (H : Heap) (locs : List Loc) (ls : Array Slot), va_P E.1 vwCl (wX9 E u g3 0) H → va_D A (wX9 E u g3 0) → va_S A s.heap H locs → lv_has ls 2 [(0, .ref (u 0)), (1, .int x2)] → W p l e rm_X9_init s m ([.ref h0] : List Value).toArray below meth c H locs 12 700 (MQ below (va_Qv (fun u : Nat → Nat => u 0 = h0) (fun u t => va_P E.1 vwCl (wX9 E u out 0) t.heap ∧ va_D A (wX9 E u out 0)) A) ([.ref h0] : List Value).toArray s 12 700 A) (F0 m 108 ls [])) (fun x2 g3 k4 ih4 hf H locs ls hP hD hS hl => by
    refine lv_iload_n hx hb dX9_init_108 rfl (lv_at hl 1 rfl) ?_
    refine lv_bipush (v := 35) hx hb dX9_init_109 (by decide) ?_
    refine lv_icmp_ge (tgt := 132) hx hb dX9_init_111 (by decide) (fun c5 => ?_) (fun c5 => ?_)
    · have hf := (if_pos c5).symm.trans hf
      have ho := Option.some.inj hf
      have hw := congrArg (fun o : Sg => (wX9 E u o 0)) ho
      exact r_nret (wf := (fun u => wX9 E u out 0)) X hr hu hP hD hS hw dX9_init_132
    · have hf := (if_neg c5).symm.trans hf
      refine lv_aload_n hx hb dX9_init_114 rfl (lv_at hl 0 rfl) ?_
      refine r_get X hP 0 (wX9_g0_0 _ _ _ _) rfl inc_X9 3 (by decide) fl_X9_13 rfl dX9_init_115 ?_
      refine lv_iload_n hx hb dX9_init_118 rfl (lv_at hl 1 rfl) ?_
      refine lv_aload_n hx hb dX9_init_119 rfl (lv_at hl 0 rfl) ?_
      refine r_get X hP 0 (wX9_g0_0 _ _ _ _) rfl inc_X9 4 (by decide) fl_X9_16 rfl dX9_init_120 ?_
      refine lv_iload_n hx hb dX9_init_123 rfl (lv_at hl 1 rfl) ?_
      obtain ⟨h6, hf⟩ := chk_in hf
      refine r_iald X hP 3 (wX9_g0_3 _ _ _ _) h6 dX9_init_124 ?_
      obtain ⟨h7, hf⟩ := chk_in hf
      refine r_iast X hP hD hS 2 (wX9_g0_2 _ _ _ _) h7 (wX9_t0_2 _ _ _ _ _ _) dX9_init_125 (fun H locs hP hD hS => ?_)
      refine lv_iinc (v := (x2 + 1)) (lv' := [(1, .int (x2 + 1)), (0, .ref (u 0))]) hx hb dX9_init_126 hl (k := 1) rfl rfl (by decide) rfl (fun ls hl => ?_)
      refine lv_goto (tgt := 108) hx hb dX9_init_129 (by decide) ?_
      exact ih4 (x2 + 1) (sg_st g3 2 (x2 : Int32).toNatClampNeg (g3 3 (x2 : Int32).toNatClampNeg)) hf H locs ls hP hD hS (lv_sub hl [1, 0] rfl))
  exact L4 1000 0 z1.2 hf H locs ls hP hD hS (lv_sub hl [1, 0] rfl)
