noncomputable def f_X8_init : Option (Sg) :=
  (f_X6_init).bind fun z1 =>
  (f_X1_init).bind fun z2 =>
  (f_X8_beginAnew (sg_sp (sg_sp sgz 1 8 z1) 9 5 z2) 0).bind fun z1 =>
  some z1
def rm_X8_init : Room := { frames := 6, cells := 64, slots := 937, locals := 138 }
set_option maxHeartbeats 40000000 in
set_option maxRecDepth 100000 in
theorem c_X8_init (l : Launch) (E : Ev) {out : Sg} (hf : f_X8_init = some out) : MtN l yX8_init cX8_init 2 rm_X8_init E 8 [.null, .null, .null, .null, .null, .null, .null, .null, .null, .null, .long 0] 64 937 (fun u => wX8 E u out 0) := by
  obtain ⟨z1, hz1, hf⟩ := obd hf
  obtain ⟨z2, hz2, hf⟩ := obd hf
  refine mtN_of (by decide) rfl (Nat.le_of_ble_eq_true rfl) (fun p e s m below meth c A ls h0 X hr hin hP hD hS hl => ?_)
  have hx := X.1.1
  have hb := X.1.2.1
  refine lv_aload_n hx hb dX8_init_0 rfl (lv_at hl 0 rfl) ?_
  refine r_obj X hl.1 ml_X8_1 (Nat.le_of_ble_eq_true rfl) (Nat.le_of_ble_eq_true rfl) dX8_init_1 ?_
  refine lv_aload_n hx hb dX8_init_4 rfl (lv_at hl 0 rfl) ?_
  refine r_newI X hl.1 hP hD hS (ci := 6) (fs := [.null, .null, .int 0, .int 0, .int 0, .int 0, .int 0, .int 0]) rfl inc_X6 tyX6 tyX6_ok ck_X8_7 ins_X6 ini_X6 rfl (fun j hj => by
      match j, hj with
      | 0, _ => rfl
      | 1, _ => rfl
      | 2, _ => rfl
      | 3, _ => rfl
      | 4, _ => rfl
      | 5, _ => rfl
      | 6, _ => rfl
      | 7, _ => rfl
      | k + 8, h => omega) (c_X6_init l E hz1) cd_X6_init ml_X8_9 im_X6_init rfl (by decide +kernel) ⟨rfl, rfl⟩ ⟨(Nat.le_of_ble_eq_true rfl), (Nat.le_of_ble_eq_true rfl)⟩ (Nat.le_of_ble_eq_true rfl) (Nat.le_of_ble_eq_true rfl) (Nat.le_of_ble_eq_true rfl) dX8_init_5 dX8_init_8 dX8_init_9 (fun u1 H locs hP hD hS => ?_)
  refine r_putF (w' := ([(h0, .inr (8, [.ref (u1 0), .null, .null, .null, .null, .null, .null, .null, .null, .null, .long 0]))] : va_W) ++ wX6 E u1 z1) X hin hP hD hS 0 rfl rfl inc_X8 tyX8 tyX8_ok nmX8 0 (by decide) fl_X8_10 rfl rfl rfl rfl (Nat.le_of_ble_eq_true rfl) rfl dX8_init_12 (fun H locs hP hD hS => ?_)
  refine lv_aload_n hx hb dX8_init_15 rfl (lv_at hl 0 rfl) ?_
  refine lv_aload_n hx hb dX8_init_16 rfl (lv_at hl 0 rfl) ?_
  refine r_get X hP 0 rfl rfl inc_X8 0 (by decide) fl_X8_10 rfl dX8_init_17 ?_
  refine r_get X hP 1 rfl rfl inc_X6 0 (by decide) fl_X8_16 rfl dX8_init_20 ?_
  refine r_putF (w' := ([(h0, .inr (8, [.ref (u1 0), .ref (u1 1), .null, .null, .null, .null, .null, .null, .null, .null, .long 0]))] : va_W) ++ wX6 E u1 z1) X hin hP hD hS 0 rfl rfl inc_X8 tyX8 tyX8_ok nmX8 1 (by decide) fl_X8_20 rfl rfl rfl rfl (Nat.le_of_ble_eq_true rfl) rfl dX8_init_23 (fun H locs hP hD hS => ?_)
  refine lv_aload_n hx hb dX8_init_26 rfl (lv_at hl 0 rfl) ?_
  refine r_newI X hl.1 hP hD hS (ci := 1) (fs := [.int 0, .int 0, .int 0, .null, .null]) rfl inc_X1 tyX1 tyX1_ok ck_X8_21 ins_X1 ini_X1 rfl (fun j hj => by
      match j, hj with
      | 0, _ => rfl
      | 1, _ => rfl
      | 2, _ => rfl
      | 3, _ => rfl
      | 4, _ => rfl
      | k + 5, h => omega) (c_X1_init l E hz2) cd_X1_init ml_X8_23 im_X1_init rfl (by decide +kernel) ⟨rfl, rfl⟩ ⟨(Nat.le_of_ble_eq_true rfl), (Nat.le_of_ble_eq_true rfl)⟩ (Nat.le_of_ble_eq_true rfl) (Nat.le_of_ble_eq_true rfl) (Nat.le_of_ble_eq_true rfl) dX8_init_27 dX8_init_30 dX8_init_31 (fun u2 H locs hP hD hS => ?_)
  refine r_putF (w' := ([(h0, .inr (8, [.ref (u1 0), .ref (u1 1), .ref (u2 0), .null, .null, .null, .null, .null, .null, .null, .long 0]))] : va_W) ++ wX6 E u1 z1 ++ wX1 E u2 z2) X hin hP hD hS 0 rfl rfl inc_X8 tyX8 tyX8_ok nmX8 2 (by decide) fl_X8_24 rfl rfl rfl rfl (Nat.le_of_ble_eq_true rfl) rfl dX8_init_34 (fun H locs hP hD hS => ?_)
  refine lv_aload_n hx hb dX8_init_37 rfl (lv_at hl 0 rfl) ?_
  refine r_newI X hl.1 hP hD hS (ci := 3) (fs := [.int 0, .int 0, .int 0, .null, .null, .null, .null, .null]) rfl inc_X3 tyX3 tyX3_ok ck_X8_28 ins_X3 ini_X3 rfl (fun j hj => by
      match j, hj with
      | 0, _ => rfl
      | 1, _ => rfl
      | 2, _ => rfl
      | 3, _ => rfl
      | 4, _ => rfl
      | 5, _ => rfl
      | 6, _ => rfl
      | 7, _ => rfl
      | k + 8, h => omega) (c_X3_init l E) cd_X3_init ml_X8_30 im_X3_init rfl (by decide +kernel) ⟨rfl, rfl⟩ ⟨(Nat.le_of_ble_eq_true rfl), (Nat.le_of_ble_eq_true rfl)⟩ (Nat.le_of_ble_eq_true rfl) (Nat.le_of_ble_eq_true rfl) (Nat.le_of_ble_eq_true rfl) dX8_init_38 dX8_init_41 dX8_init_42 (fun u3 H locs hP hD hS => ?_)
  refine r_putF (w' := ([(h0, .inr (8, [.ref (u1 0), .ref (u1 1), .ref (u2 0), .ref (u3 0), .null, .null, .null, .null, .null, .null, .long 0]))] : va_W) ++ wX6 E u1 z1 ++ wX1 E u2 z2 ++ wX3 E u3 sgz) X hin hP hD hS 0 rfl rfl inc_X8 tyX8 tyX8_ok nmX8 3 (by decide) fl_X8_31 rfl rfl rfl rfl (Nat.le_of_ble_eq_true rfl) rfl dX8_init_45 (fun H locs hP hD hS => ?_)
  refine lv_aload_n hx hb dX8_init_48 rfl (lv_at hl 0 rfl) ?_
  refine r_newI X hl.1 hP hD hS (ci := 3) (fs := [.int 0, .int 0, .int 0, .null, .null, .null, .null, .null]) rfl inc_X3 tyX3 tyX3_ok ck_X8_28 ins_X3 ini_X3 rfl (fun j hj => by
      match j, hj with
      | 0, _ => rfl
      | 1, _ => rfl
      | 2, _ => rfl
      | 3, _ => rfl
      | 4, _ => rfl
      | 5, _ => rfl
      | 6, _ => rfl
      | 7, _ => rfl
      | k + 8, h => omega) (c_X3_init l E) cd_X3_init ml_X8_30 im_X3_init rfl (by decide +kernel) ⟨rfl, rfl⟩ ⟨(Nat.le_of_ble_eq_true rfl), (Nat.le_of_ble_eq_true rfl)⟩ (Nat.le_of_ble_eq_true rfl) (Nat.le_of_ble_eq_true rfl) (Nat.le_of_ble_eq_true rfl) dX8_init_49 dX8_init_52 dX8_init_53 (fun u4 H locs hP hD hS => ?_)
  refine r_putF (w' := ([(h0, .inr (8, [.ref (u1 0), .ref (u1 1), .ref (u2 0), .ref (u3 0), .ref (u4 0), .null, .null, .null, .null, .null, .long 0]))] : va_W) ++ wX6 E u1 z1 ++ wX1 E u2 z2 ++ wX3 E u3 sgz ++ wX3 E u4 sgz) X hin hP hD hS 0 rfl rfl inc_X8 tyX8 tyX8_ok nmX8 4 (by decide) fl_X8_35 rfl rfl rfl rfl (Nat.le_of_ble_eq_true rfl) rfl dX8_init_56 (fun H locs hP hD hS => ?_)
  refine lv_aload_n hx hb dX8_init_59 rfl (lv_at hl 0 rfl) ?_
  refine r_newI X hl.1 hP hD hS (ci := 0) (fs := [.int 0, .null, .null, .null]) rfl inc_X0 tyX0 tyX0_ok ck_X8_38 ins_X0 ini_X0 rfl (fun j hj => by
      match j, hj with
      | 0, _ => rfl
      | 1, _ => rfl
      | 2, _ => rfl
      | 3, _ => rfl
      | k + 4, h => omega) (c_X0_init l E) cd_X0_init ml_X8_40 im_X0_init rfl (by decide +kernel) ⟨rfl, rfl⟩ ⟨(Nat.le_of_ble_eq_true rfl), (Nat.le_of_ble_eq_true rfl)⟩ (Nat.le_of_ble_eq_true rfl) (Nat.le_of_ble_eq_true rfl) (Nat.le_of_ble_eq_true rfl) dX8_init_60 dX8_init_63 dX8_init_64 (fun u5 H locs hP hD hS => ?_)
  refine r_putF (w' := ([(h0, .inr (8, [.ref (u1 0), .ref (u1 1), .ref (u2 0), .ref (u3 0), .ref (u4 0), .ref (u5 0), .null, .null, .null, .null, .long 0]))] : va_W) ++ wX6 E u1 z1 ++ wX1 E u2 z2 ++ wX3 E u3 sgz ++ wX3 E u4 sgz ++ wX0 E u5 sgz) X hin hP hD hS 0 rfl rfl inc_X8 tyX8 tyX8_ok nmX8 5 (by decide) fl_X8_41 rfl rfl rfl rfl (Nat.le_of_ble_eq_true rfl) rfl dX8_init_67 (fun H locs hP hD hS => ?_)
  refine lv_aload_n hx hb dX8_init_70 rfl (lv_at hl 0 rfl) ?_
  refine r_newI X hl.1 hP hD hS (ci := 2) (fs := [.int 0, .int 0, .int 0, .null, .null]) rfl inc_X2 tyX2 tyX2_ok ck_X8_45 ins_X2 ini_X2 rfl (fun j hj => by
      match j, hj with
      | 0, _ => rfl
      | 1, _ => rfl
      | 2, _ => rfl
      | 3, _ => rfl
      | 4, _ => rfl
      | k + 5, h => omega) (c_X2_init l E) cd_X2_init ml_X8_47 im_X2_init rfl (by decide +kernel) ⟨rfl, rfl⟩ ⟨(Nat.le_of_ble_eq_true rfl), (Nat.le_of_ble_eq_true rfl)⟩ (Nat.le_of_ble_eq_true rfl) (Nat.le_of_ble_eq_true rfl) (Nat.le_of_ble_eq_true rfl) dX8_init_71 dX8_init_74 dX8_init_75 (fun u6 H locs hP hD hS => ?_)
  refine r_putF (w' := ([(h0, .inr (8, [.ref (u1 0), .ref (u1 1), .ref (u2 0), .ref (u3 0), .ref (u4 0), .ref (u5 0), .ref (u6 0), .null, .null, .null, .long 0]))] : va_W) ++ wX6 E u1 z1 ++ wX1 E u2 z2 ++ wX3 E u3 sgz ++ wX3 E u4 sgz ++ wX0 E u5 sgz ++ wX2 E u6 sgz) X hin hP hD hS 0 rfl rfl inc_X8 tyX8 tyX8_ok nmX8 6 (by decide) fl_X8_48 rfl rfl rfl rfl (Nat.le_of_ble_eq_true rfl) rfl dX8_init_78 (fun H locs hP hD hS => ?_)
  refine lv_aload_n hx hb dX8_init_81 rfl (lv_at hl 0 rfl) ?_
  refine lv_iconst (v := 2) hx hb dX8_init_82 (by decide) ?_
  refine r_newq (t0 := 2) X hP hD hS ck_X8_45 X.2.2.1.ao2 rfl (N := 2) (by decide) (by decide) (Nat.le_of_ble_eq_true rfl) (Nat.le_of_ble_eq_true rfl) (Nat.le_of_ble_eq_true rfl) dX8_init_83 (fun q7 H hP hD hS => ?_)
  refine r_putF (w' := ([(h0, .inr (8, [.ref (u1 0), .ref (u1 1), .ref (u2 0), .ref (u3 0), .ref (u4 0), .ref (u5 0), .ref (u6 0), .ref q7, .null, .null, .long 0]))] : va_W) ++ wX6 E u1 z1 ++ wX1 E u2 z2 ++ wX3 E u3 sgz ++ wX3 E u4 sgz ++ wX0 E u5 sgz ++ wX2 E u6 sgz ++ [(q7, .inl (E.2.1 2, 2, .inr (.inr (.inr (.inr (fun _ => none))))))]) X hin hP hD hS 0 rfl rfl inc_X8 tyX8 tyX8_ok nmX8 7 (by decide) fl_X8_52 rfl rfl rfl rfl (Nat.le_of_ble_eq_true rfl) rfl dX8_init_86 (fun H locs hP hD hS => ?_)
  refine lv_aload_n hx hb dX8_init_89 rfl (lv_at hl 0 rfl) ?_
  refine r_newI X hl.1 hP hD hS (ci := 4) (fs := [.int 0, .null, .null]) rfl inc_X4 tyX4 tyX4_ok ck_X8_56 ins_X4 ini_X4 rfl (fun j hj => by
      match j, hj with
      | 0, _ => rfl
      | 1, _ => rfl
      | 2, _ => rfl
      | k + 3, h => omega) (c_X4_init l E) cd_X4_init ml_X8_58 im_X4_init rfl (by decide +kernel) ⟨rfl, rfl⟩ ⟨(Nat.le_of_ble_eq_true rfl), (Nat.le_of_ble_eq_true rfl)⟩ (Nat.le_of_ble_eq_true rfl) (Nat.le_of_ble_eq_true rfl) (Nat.le_of_ble_eq_true rfl) dX8_init_90 dX8_init_93 dX8_init_94 (fun u8 H locs hP hD hS => ?_)
  refine r_putF (w' := ([(h0, .inr (8, [.ref (u1 0), .ref (u1 1), .ref (u2 0), .ref (u3 0), .ref (u4 0), .ref (u5 0), .ref (u6 0), .ref q7, .ref (u8 0), .null, .long 0]))] : va_W) ++ wX6 E u1 z1 ++ wX1 E u2 z2 ++ wX3 E u3 sgz ++ wX3 E u4 sgz ++ wX0 E u5 sgz ++ wX2 E u6 sgz ++ [(q7, .inl (E.2.1 2, 2, .inr (.inr (.inr (.inr (fun _ => none))))))] ++ wX4 E u8 sgz) X hin hP hD hS 0 rfl rfl inc_X8 tyX8 tyX8_ok nmX8 8 (by decide) fl_X8_59 rfl rfl rfl rfl (Nat.le_of_ble_eq_true rfl) rfl dX8_init_97 (fun H locs hP hD hS => ?_)
  refine lv_aload_n hx hb dX8_init_100 rfl (lv_at hl 0 rfl) ?_
  refine r_newI X hl.1 hP hD hS (ci := 5) (fs := [.int 0, .null, .null, .null, .int 0]) rfl inc_X5 tyX5 tyX5_ok ck_X8_63 ins_X5 ini_X5 rfl (fun j hj => by
      match j, hj with
      | 0, _ => rfl
      | 1, _ => rfl
      | 2, _ => rfl
      | 3, _ => rfl
      | 4, _ => rfl
      | k + 5, h => omega) (c_X5_init l E) cd_X5_init ml_X8_65 im_X5_init rfl (by decide +kernel) ⟨rfl, rfl⟩ ⟨(Nat.le_of_ble_eq_true rfl), (Nat.le_of_ble_eq_true rfl)⟩ (Nat.le_of_ble_eq_true rfl) (Nat.le_of_ble_eq_true rfl) (Nat.le_of_ble_eq_true rfl) dX8_init_101 dX8_init_104 dX8_init_105 (fun u9 H locs hP hD hS => ?_)
  refine r_putF (w' := ([(h0, .inr (8, [.ref (u1 0), .ref (u1 1), .ref (u2 0), .ref (u3 0), .ref (u4 0), .ref (u5 0), .ref (u6 0), .ref q7, .ref (u8 0), .ref (u9 0), .long 0]))] : va_W) ++ wX6 E u1 z1 ++ wX1 E u2 z2 ++ wX3 E u3 sgz ++ wX3 E u4 sgz ++ wX0 E u5 sgz ++ wX2 E u6 sgz ++ [(q7, .inl (E.2.1 2, 2, .inr (.inr (.inr (.inr (fun _ => none))))))] ++ wX4 E u8 sgz ++ wX5 E u9 sgz) X hin hP hD hS 0 rfl rfl inc_X8 tyX8 tyX8_ok nmX8 9 (by decide) fl_X8_66 rfl rfl rfl rfl (Nat.le_of_ble_eq_true rfl) rfl dX8_init_108 (fun H locs hP hD hS => ?_)
  refine lv_aload_n hx hb dX8_init_111 rfl (lv_at hl 0 rfl) ?_
  refine lv_lconst (v := 0) hx hb dX8_init_112 (by decide) ?_
  refine r_put (w' := ([(h0, .inr (8, [.ref (u1 0), .ref (u1 1), .ref (u2 0), .ref (u3 0), .ref (u4 0), .ref (u5 0), .ref (u6 0), .ref q7, .ref (u8 0), .ref (u9 0), .long 0]))] : va_W) ++ wX6 E u1 z1 ++ wX1 E u2 z2 ++ wX3 E u3 sgz ++ wX3 E u4 sgz ++ wX0 E u5 sgz ++ wX2 E u6 sgz ++ [(q7, .inl (E.2.1 2, 2, .inr (.inr (.inr (.inr (fun _ => none))))))] ++ wX4 E u8 sgz ++ wX5 E u9 sgz) X hP hD hS 0 rfl rfl inc_X8 tyX8 tyX8_ok nmX8 10 (by decide) fl_X8_70 rfl (ty := .long) rfl rfl rfl (Nat.le_of_ble_eq_true rfl) rfl dX8_init_113 (fun H locs hP hD hS => ?_)
  refine lv_iconst (v := 0) hx hb dX8_init_116 (by decide) ?_
  refine lv_istore_n (lv' := [(1, .int 0), (0, .ref h0)]) hx hb dX8_init_117 rfl hl (by decide) rfl (fun ls hl => ?_)
  refine lv_iload_n hx hb dX8_init_118 rfl (lv_at hl 0 rfl) ?_
  refine lv_iconst (v := 2) hx hb dX8_init_119 (by decide) ?_
  refine lv_icmp_ge (tgt := 142) hx hb dX8_init_120 (by decide) (fun c => absurd c (by decide)) (fun c => ?_)
  refine lv_aload_n hx hb dX8_init_123 rfl (lv_at hl 1 rfl) ?_
  refine r_get X hP 0 rfl rfl inc_X8 7 (by decide) fl_X8_52 rfl dX8_init_124 ?_
  refine lv_iload_n hx hb dX8_init_127 rfl (lv_at hl 0 rfl) ?_
  refine r_newI X hl.1 hP hD hS (ci := 2) (fs := [.int 0, .int 0, .int 0, .null, .null]) rfl inc_X2 tyX2 tyX2_ok ck_X8_45 ins_X2 ini_X2 rfl (fun j hj => by
      match j, hj with
      | 0, _ => rfl
      | 1, _ => rfl
      | 2, _ => rfl
      | 3, _ => rfl
      | 4, _ => rfl
      | k + 5, h => omega) (c_X2_init l E) cd_X2_init ml_X8_47 im_X2_init rfl (by decide +kernel) ⟨rfl, rfl⟩ ⟨(Nat.le_of_ble_eq_true rfl), (Nat.le_of_ble_eq_true rfl)⟩ (Nat.le_of_ble_eq_true rfl) (Nat.le_of_ble_eq_true rfl) (Nat.le_of_ble_eq_true rfl) dX8_init_128 dX8_init_131 dX8_init_132 (fun u10 H locs hP hD hS => ?_)
  refine r_astq (w' := ([(h0, .inr (8, [.ref (u1 0), .ref (u1 1), .ref (u2 0), .ref (u3 0), .ref (u4 0), .ref (u5 0), .ref (u6 0), .ref q7, .ref (u8 0), .ref (u9 0), .long 0]))] : va_W) ++ wX6 E u1 z1 ++ wX1 E u2 z2 ++ wX3 E u3 sgz ++ wX3 E u4 sgz ++ wX0 E u5 sgz ++ wX2 E u6 sgz ++ [(q7, .inl (E.2.1 2, 2, .inr (.inr (.inr (.inr (va_up (fun _ => none) (0 : Int32).toNatClampNeg (some (u10 0))))))))] ++ wX4 E u8 sgz ++ wX5 E u9 sgz ++ wX2 E u10 sgz) X hP hD hS 33 2 59 2 rfl rfl rfl rfl (vin_d rfl) rfl dX8_init_135 (fun H locs hP hD hS => ?_)
  refine lv_iinc (v := 1) (lv' := [(1, .int 1), (0, .ref h0)]) hx hb dX8_init_136 hl (k := 0) rfl (by decide) (by decide) rfl (fun ls hl => ?_)
  refine lv_goto (tgt := 118) hx hb dX8_init_139 (by decide) ?_
  refine lv_iload_n hx hb dX8_init_118 rfl (lv_at hl 0 rfl) ?_
  refine lv_iconst (v := 2) hx hb dX8_init_119 (by decide) ?_
  refine lv_icmp_ge (tgt := 142) hx hb dX8_init_120 (by decide) (fun c => absurd c (by decide)) (fun c => ?_)
  refine lv_aload_n hx hb dX8_init_123 rfl (lv_at hl 1 rfl) ?_
  refine r_get X hP 0 rfl rfl inc_X8 7 (by decide) fl_X8_52 rfl dX8_init_124 ?_
  refine lv_iload_n hx hb dX8_init_127 rfl (lv_at hl 0 rfl) ?_
  refine r_newI X hl.1 hP hD hS (ci := 2) (fs := [.int 0, .int 0, .int 0, .null, .null]) rfl inc_X2 tyX2 tyX2_ok ck_X8_45 ins_X2 ini_X2 rfl (fun j hj => by
      match j, hj with
      | 0, _ => rfl
      | 1, _ => rfl
      | 2, _ => rfl
      | 3, _ => rfl
      | 4, _ => rfl
      | k + 5, h => omega) (c_X2_init l E) cd_X2_init ml_X8_47 im_X2_init rfl (by decide +kernel) ⟨rfl, rfl⟩ ⟨(Nat.le_of_ble_eq_true rfl), (Nat.le_of_ble_eq_true rfl)⟩ (Nat.le_of_ble_eq_true rfl) (Nat.le_of_ble_eq_true rfl) (Nat.le_of_ble_eq_true rfl) dX8_init_128 dX8_init_131 dX8_init_132 (fun u11 H locs hP hD hS => ?_)
  refine r_astq (w' := ([(h0, .inr (8, [.ref (u1 0), .ref (u1 1), .ref (u2 0), .ref (u3 0), .ref (u4 0), .ref (u5 0), .ref (u6 0), .ref q7, .ref (u8 0), .ref (u9 0), .long 0]))] : va_W) ++ wX6 E u1 z1 ++ wX1 E u2 z2 ++ wX3 E u3 sgz ++ wX3 E u4 sgz ++ wX0 E u5 sgz ++ wX2 E u6 sgz ++ [(q7, .inl (E.2.1 2, 2, .inr (.inr (.inr (.inr (va_up (va_up (fun _ => none) (0 : Int32).toNatClampNeg (some (u10 0))) (1 : Int32).toNatClampNeg (some (u11 0))))))))] ++ wX4 E u8 sgz ++ wX5 E u9 sgz ++ wX2 E u10 sgz ++ wX2 E u11 sgz) X hP hD hS 33 2 62 2 rfl rfl rfl rfl (vin_d rfl) rfl dX8_init_135 (fun H locs hP hD hS => ?_)
  refine lv_iinc (v := 2) (lv' := [(1, .int 2), (0, .ref h0)]) hx hb dX8_init_136 hl (k := 0) rfl (by decide) (by decide) rfl (fun ls hl => ?_)
  refine lv_goto (tgt := 118) hx hb dX8_init_139 (by decide) ?_
  refine lv_iload_n hx hb dX8_init_118 rfl (lv_at hl 0 rfl) ?_
  refine lv_iconst (v := 2) hx hb dX8_init_119 (by decide) ?_
  refine lv_icmp_ge (tgt := 142) hx hb dX8_init_120 (by decide) (fun c => ?_) (fun c => absurd (by decide) c)
  have hpm : (([(h0, .inr (8, [.ref (u1 0), .ref (u1 1), .ref (u2 0), .ref (u3 0), .ref (u4 0), .ref (u5 0), .ref (u6 0), .ref q7, .ref (u8 0), .ref (u9 0), .long 0]))] : va_W) ++ wX6 E u1 z1 ++ wX1 E u2 z2 ++ wX3 E u3 sgz ++ wX3 E u4 sgz ++ wX0 E u5 sgz ++ wX2 E u6 sgz ++ [(q7, .inl (E.2.1 2, 2, .inr (.inr (.inr (.inr (va_up (va_up (fun _ => none) (0 : Int32).toNatClampNeg (some (u10 0))) (1 : Int32).toNatClampNeg (some (u11 0))))))))] ++ wX4 E u8 sgz ++ wX5 E u9 sgz ++ wX2 E u10 sgz ++ wX2 E u11 sgz).Perm (([(h0, .inr (8, [.ref (u1 0), .ref (u1 1), .ref (u2 0), .ref (u3 0), .ref (u4 0), .ref (u5 0), .ref (u6 0), .ref q7, .ref (u8 0), .ref (u9 0), .long 0]))] : va_W) ++ wX6 E u1 z1 ++ wX1 E u2 z2 ++ wX3 E u3 sgz ++ wX3 E u4 sgz ++ wX0 E u5 sgz ++ wX2 E u6 sgz ++ [(q7, .inl (E.2.1 2, 2, .inr (.inr (.inr (.inr (va_up (va_up (fun _ => none) (0 : Int32).toNatClampNeg (some (u10 0))) (1 : Int32).toNatClampNeg (some (u11 0))))))))] ++ wX2 E u10 sgz ++ wX2 E u11 sgz ++ wX4 E u8 sgz ++ wX5 E u9 sgz) := by
    simp only [List.append_assoc]
    repeat (first | exact List.Perm.refl _ | exact sw_perm _ _ _ _ | apply List.Perm.append_left)
  have hP : va_P E.1 vwCl (wX8 E (fun k => if k = 0 then h0 else if k < 9 then u1 (k - 1) else if k < 14 then u2 (k - 9) else if k < 20 then u3 (k - 14) else if k < 26 then u4 (k - 20) else if k < 30 then u5 (k - 26) else if k < 33 then u6 (k - 30) else if k < 34 then q7 else if k < 37 then u10 (k - 34) else if k < 40 then u11 (k - 37) else if k < 43 then u8 (k - 40) else u9 (k - 43)) (sg_sp (sg_sp sgz 1 8 z1) 9 5 z2) 0) H := vP_perm hpm hP
  have hD : va_D A (wX8 E (fun k => if k = 0 then h0 else if k < 9 then u1 (k - 1) else if k < 14 then u2 (k - 9) else if k < 20 then u3 (k - 14) else if k < 26 then u4 (k - 20) else if k < 30 then u5 (k - 26) else if k < 33 then u6 (k - 30) else if k < 34 then q7 else if k < 37 then u10 (k - 34) else if k < 40 then u11 (k - 37) else if k < 43 then u8 (k - 40) else u9 (k - 43)) (sg_sp (sg_sp sgz 1 8 z1) 9 5 z2) 0) := vD_perm hpm hD
  have hu : (fun k => if k = 0 then h0 else if k < 9 then u1 (k - 1) else if k < 14 then u2 (k - 9) else if k < 20 then u3 (k - 14) else if k < 26 then u4 (k - 20) else if k < 30 then u5 (k - 26) else if k < 33 then u6 (k - 30) else if k < 34 then q7 else if k < 37 then u10 (k - 34) else if k < 40 then u11 (k - 37) else if k < 43 then u8 (k - 40) else u9 (k - 43)) 0 = h0 := rfl
  generalize (fun k => if k = 0 then h0 else if k < 9 then u1 (k - 1) else if k < 14 then u2 (k - 9) else if k < 20 then u3 (k - 14) else if k < 26 then u4 (k - 20) else if k < 30 then u5 (k - 26) else if k < 33 then u6 (k - 30) else if k < 34 then q7 else if k < 37 then u10 (k - 34) else if k < 40 then u11 (k - 37) else if k < 43 then u8 (k - 40) else u9 (k - 43)) = u at hP hD hu
  have hl : lv_has ls 2 [(0, .ref (u 0))] := by
    rw [hu]
    exact lv_sub hl [1] rfl
  refine lv_aload_n hx hb dX8_init_142 rfl (lv_at hl 0 rfl) ?_
  obtain ⟨z1, hz1, hf⟩ := obd hf
  refine cV_allV X (As := []) (rest := []) (c_X8_beginAnew l E u (sg_sp (sg_sp sgz 1 8 z1) 9 5 z2) 0 hz1) pv_X8_beginAnew ml_X8_74 ⟨rfl, rfl⟩ ⟨(Nat.le_of_ble_eq_true rfl), (Nat.le_of_ble_eq_true rfl)⟩ hP hD hS (wX8_g0_0 _ _ _ _) rfl (wX8_adr _ _ _ _ _ _) rfl hl.1 rfl (Nat.le_of_ble_eq_true rfl) dX8_init_143 ⟨Nat.le_refl _, Nat.le_refl _⟩ (fun H locs hP hD hS => ?_)
  have ho := Option.some.inj hf
  have hw := congrArg (fun o : Sg => (wX8 E u o 0)) ho
  exact r_nret (wf := (fun u => wX8 E u out 0)) X hr hu hP hD hS hw dX8_init_146
