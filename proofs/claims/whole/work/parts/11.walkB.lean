def rm_X3_axisOf : Room := { frames := 0, cells := 0, slots := 0, locals := 0 }
theorem ps_X3_axisOf : PkS yX3_axisOf cX3_axisOf 1 (some .int) 1 := ⟨sm_X3_axisOf, ini_X3, cd_X3_axisOf, by decide +kernel⟩
set_option maxHeartbeats 4000000 in
set_option maxRecDepth 100000 in
theorem c_X3_axisOf (l : Launch) (E : Ev) (p1 : Int32) {out : Int32} (hf : f_X3_axisOf p1 = some out) : MtI l yX3_axisOf (wl yX3_axisOf cX3_axisOf 1 (some .int)) rm_X3_axisOf E [.int p1] ([] : va_W) out ([] : va_W) := by
  refine mt_of (QQ := (fun A => va_Qi (fun x (_ : Unit) => x = out) (fun _ t => QW E ([] : va_W) t) A)) (by decide) (Nat.le_of_ble_eq_true rfl) (fun p e s m below meth c A ls X hr hP hD hS hl => ?_)
  have hx := X.1.1
  have hb := X.1.2.1
  have hl : lv_has ls 1 [(0, .int p1)] := hl
  obtain ⟨H, hHe⟩ : ∃ H : Heap, H = s.heap := ⟨_, rfl⟩
  obtain ⟨locs, hLe⟩ : ∃ locs : List Loc, locs = [] := ⟨_, rfl⟩
  have hP : va_P E.1 vwCl ([] : va_W) H := by rw [hHe]; exact hP
  have hS : va_S A s.heap H locs := by rw [hHe, hLe]; exact hS
  rw [← hLe, show W p l e rm_X3_axisOf s m ([.int p1] : List Value).toArray below meth c s.heap locs 0 0 = W p l e rm_X3_axisOf s m ([.int p1] : List Value).toArray below meth c H locs 0 0 from by rw [hHe]]
  refine lv_iload_n hx hb dX3_axisOf_0 rfl (lv_at hl 0 rfl) ?_
  refine lv_iconst (v := 1) hx hb dX3_axisOf_1 (by decide) ?_
  refine lv_iand hx hb dX3_axisOf_2 ?_
  have ho := Option.some.inj hf
  exact r_iret X hr hP hS ho rfl dX3_axisOf_3
def rm_X3_lineOf : Room := { frames := 0, cells := 0, slots := 0, locals := 0 }
theorem ps_X3_lineOf : PkS yX3_lineOf cX3_lineOf 1 (some .int) 1 := ⟨sm_X3_lineOf, ini_X3, cd_X3_lineOf, by decide +kernel⟩
set_option maxHeartbeats 4000000 in
set_option maxRecDepth 100000 in
theorem c_X3_lineOf (l : Launch) (E : Ev) (p1 : Int32) {out : Int32} (hf : f_X3_lineOf p1 = some out) : MtI l yX3_lineOf (wl yX3_lineOf cX3_lineOf 1 (some .int)) rm_X3_lineOf E [.int p1] ([] : va_W) out ([] : va_W) := by
  refine mt_of (QQ := (fun A => va_Qi (fun x (_ : Unit) => x = out) (fun _ t => QW E ([] : va_W) t) A)) (by decide) (Nat.le_of_ble_eq_true rfl) (fun p e s m below meth c A ls X hr hP hD hS hl => ?_)
  have hx := X.1.1
  have hb := X.1.2.1
  have hl : lv_has ls 1 [(0, .int p1)] := hl
  obtain ⟨H, hHe⟩ : ∃ H : Heap, H = s.heap := ⟨_, rfl⟩
  obtain ⟨locs, hLe⟩ : ∃ locs : List Loc, locs = [] := ⟨_, rfl⟩
  have hP : va_P E.1 vwCl ([] : va_W) H := by rw [hHe]; exact hP
  have hS : va_S A s.heap H locs := by rw [hHe, hLe]; exact hS
  rw [← hLe, show W p l e rm_X3_lineOf s m ([.int p1] : List Value).toArray below meth c s.heap locs 0 0 = W p l e rm_X3_lineOf s m ([.int p1] : List Value).toArray below meth c H locs 0 0 from by rw [hHe]]
  refine lv_iload_n hx hb dX3_lineOf_0 rfl (lv_at hl 0 rfl) ?_
  refine lv_iconst (v := 3) hx hb dX3_lineOf_1 (by decide) ?_
  refine lv_ishr hx hb dX3_lineOf_2 ?_
  refine lv_iconst (v := 1) hx hb dX3_lineOf_3 (by decide) ?_
  refine lv_iadd hx hb dX3_lineOf_4 ?_
  have ho := Option.some.inj hf
  exact r_iret X hr hP hS ho rfl dX3_lineOf_5
def rm_X3_isParted : Room := { frames := 1, cells := 0, slots := 0, locals := 21 }
theorem pv_X3_isParted : PkV RX3 yX3_isParted cX3_isParted 7 (some .boolean) 3 := ⟨im_X3_isParted, se_X3_isParted, ini_X3, cd_X3_isParted, by decide +kernel⟩
set_option maxHeartbeats 4000000 in
set_option maxRecDepth 100000 in
theorem c_X3_isParted (l : Launch) (E : Ev) (a : Nat → Nat) (σ : Sg) (p1 : Int32) (p2 : Int32) (p3 : Int32) {out : Int32} (hf : f_X3_isParted σ p1 p2 p3 = some out) : MtI l yX3_isParted (wl yX3_isParted cX3_isParted 7 (some .boolean)) rm_X3_isParted E [.ref (a 0), .int p1, .int p2, .int p3] (wX3 E a σ) out (wX3 E a σ) := by
  refine mt_of (QQ := (fun A => va_Qi (fun x (_ : Unit) => x = out) (fun _ t => QW E (wX3 E a σ) t) A)) (by decide) (Nat.le_of_ble_eq_true rfl) (fun p e s m below meth c A ls X hr hP hD hS hl => ?_)
  have hx := X.1.1
  have hb := X.1.2.1
  have hl : lv_has ls 7 [(0, .ref (a 0)), (1, .int p1), (2, .int p2), (3, .int p3)] := hl
  obtain ⟨H, hHe⟩ : ∃ H : Heap, H = s.heap := ⟨_, rfl⟩
  obtain ⟨locs, hLe⟩ : ∃ locs : List Loc, locs = [] := ⟨_, rfl⟩
  have hP : va_P E.1 vwCl (wX3 E a σ) H := by rw [hHe]; exact hP
  have hS : va_S A s.heap H locs := by rw [hHe, hLe]; exact hS
  rw [← hLe, show W p l e rm_X3_isParted s m ([.ref (a 0), .int p1, .int p2, .int p3] : List Value).toArray below meth c s.heap locs 0 0 = W p l e rm_X3_isParted s m ([.ref (a 0), .int p1, .int p2, .int p3] : List Value).toArray below meth c H locs 0 0 from by rw [hHe]]
  refine lv_iload_n hx hb dX3_isParted_0 rfl (lv_at hl 3 rfl) ?_
  obtain ⟨z1, hz1, hf⟩ := obd hf
  refine cS_roI X (As := [.int p3]) (rest := []) (c_X3_axisOf l E p3 hz1) ps_X3_axisOf ml_X3_49 ⟨rfl, rfl⟩ ⟨(Nat.le_of_ble_eq_true rfl), (Nat.le_of_ble_eq_true rfl)⟩ hP hD hS (is := []) (wc := []) rfl rfl rfl hl.1 rfl (Nat.le_of_ble_eq_true rfl) dX3_isParted_1 ⟨Nat.le_refl _, Nat.le_refl _⟩ (fun H locs hP hS => ?_)
  have J1 : ∀ (x2 : Int32) (x3 : Int32) (x4 : Int32), j_X3_isParted_1 x2 x3 x4 = some out → ∀ (H : Heap) (locs : List Loc) (ls : Array Slot), va_P E.1 vwCl (wX3 E a σ) H → va_D A (wX3 E a σ) → va_S A s.heap H locs → lv_has ls 7 [(6, .int x2)] → W p l e rm_X3_isParted s m ([.ref (a 0), .int p1, .int p2, .int p3] : List Value).toArray below meth c H locs 0 0 (MQ below (va_Qi (fun x (_ : Unit) => x = out) (fun _ t => QW E (wX3 E a σ) t) A) ([.ref (a 0), .int p1, .int p2, .int p3] : List Value).toArray s 0 0 A) (F0 m 83 ls [.int x3, .int x4]) := by
    intro x2 x3 x4 hf H locs ls hP hD hS hl
    refine r_max X hl.1 ml_X3_75 sm_Math_max ini_J9 cd_Math_max (Nat.le_of_ble_eq_true rfl) (Nat.le_of_ble_eq_true rfl) (Nat.le_refl _) (Nat.le_refl _) dX3_isParted_83 ?_
    refine lv_iload hx hb dX3_isParted_86 (lv_at hl 0 rfl) ?_
    refine lv_icmp_ne (tgt := 95) hx hb dX3_isParted_88 (by decide) (fun c5 => ?_) (fun c5 => ?_)
    · have hf := (if_neg c5).symm.trans hf
      refine lv_iconst (v := 0) hx hb dX3_isParted_95 (by decide) ?_
      have ho := Option.some.inj hf
      exact r_zret X hr hP hS rfl ho rfl dX3_isParted_96
    · have hf := (if_pos c5).symm.trans hf
      refine lv_iconst (v := 1) hx hb dX3_isParted_91 (by decide) ?_
      refine lv_goto (tgt := 96) hx hb dX3_isParted_92 (by decide) ?_
      have ho := Option.some.inj hf
      exact r_zret X hr hP hS rfl ho rfl dX3_isParted_96
  refine lv_if_ne (tgt := 14) hx hb dX3_isParted_4 (by decide) (fun c6 => ?_) (fun c6 => ?_)
  · have hf := (if_neg c6).symm.trans hf
    refine lv_aload_n hx hb dX3_isParted_14 rfl (lv_at hl 0 rfl) ?_
    refine r_get X hP 0 (wX3_g0_0 _ _ _) rfl inc_X3 4 (by decide) fl_X3_25 rfl dX3_isParted_15 ?_
    refine lv_astore (lv' := [(4, .ref (a 2)), (0, .ref (a 0)), (1, .int p1), (2, .int p2), (3, .int p3)]) hx hb dX3_isParted_18 hl (by decide) rfl (fun ls hl => ?_)
    refine lv_iload_n hx hb dX3_isParted_20 rfl (lv_at hl 4 rfl) ?_
    obtain ⟨z7, hz7, hf⟩ := obd hf
    refine cS_roI X (As := [.int p3]) (rest := []) (c_X3_axisOf l E p3 hz7) ps_X3_axisOf ml_X3_49 ⟨rfl, rfl⟩ ⟨(Nat.le_of_ble_eq_true rfl), (Nat.le_of_ble_eq_true rfl)⟩ hP hD hS (is := []) (wc := []) rfl rfl rfl hl.1 rfl (Nat.le_of_ble_eq_true rfl) dX3_isParted_21 ⟨Nat.le_refl _, Nat.le_refl _⟩ (fun H locs hP hS => ?_)
    have J2 : ∀ (x8 : Int32) (x9 : Int32) (x10 : Int32), j_X3_isParted_2 σ p1 p2 x8 x9 x10 = some out → ∀ (H : Heap) (locs : List Loc) (ls : Array Slot), va_P E.1 vwCl (wX3 E a σ) H → va_D A (wX3 E a σ) → va_S A s.heap H locs → lv_has ls 7 [(1, .int p1), (2, .int p2), (4, .ref (a 2)), (6, .int x8)] → W p l e rm_X3_isParted s m ([.ref (a 0), .int p1, .int p2, .int p3] : List Value).toArray below meth c H locs 0 0 (MQ below (va_Qi (fun x (_ : Unit) => x = out) (fun _ t => QW E (wX3 E a σ) t) A) ([.ref (a 0), .int p1, .int p2, .int p3] : List Value).toArray s 0 0 A) (F0 m 54 ls [.int x9, .int x10]) := by
      intro x8 x9 x10 hf H locs ls hP hD hS hl
      refine lv_icmp_ne (tgt := 95) hx hb dX3_isParted_54 (by decide) (fun c11 => ?_) (fun c11 => ?_)
      · have hf := (if_neg c11).symm.trans hf
        refine lv_iconst (v := 0) hx hb dX3_isParted_95 (by decide) ?_
        have ho := Option.some.inj hf
        exact r_zret X hr hP hS rfl ho rfl dX3_isParted_96
      · have hf := (if_pos c11).symm.trans hf
        refine lv_aload hx hb dX3_isParted_57 (lv_at hl 2 rfl) ?_
        refine lv_iload_n hx hb dX3_isParted_59 rfl (lv_at hl 0 rfl) ?_
        obtain ⟨h12, hf⟩ := chk_in hf
        refine r_iald X hP 2 (wX3_g0_2 _ _ _) h12 dX3_isParted_60 ?_
        refine lv_aload hx hb dX3_isParted_61 (lv_at hl 2 rfl) ?_
        refine lv_iload_n hx hb dX3_isParted_63 rfl (lv_at hl 1 rfl) ?_
        obtain ⟨h13, hf⟩ := chk_in hf
        refine r_iald X hP 2 (wX3_g0_2 _ _ _) h13 dX3_isParted_64 ?_
        refine r_min X hl.1 ml_X3_37 sm_Math_min ini_J9 cd_Math_min (Nat.le_of_ble_eq_true rfl) (Nat.le_of_ble_eq_true rfl) (Nat.le_refl _) (Nat.le_refl _) dX3_isParted_65 ?_
        refine lv_iload hx hb dX3_isParted_68 (lv_at hl 3 rfl) ?_
        refine lv_iconst (v := 1) hx hb dX3_isParted_70 (by decide) ?_
        refine lv_isub hx hb dX3_isParted_71 ?_
        refine lv_icmp_ne (tgt := 95) hx hb dX3_isParted_72 (by decide) (fun c14 => ?_) (fun c14 => ?_)
        · have hf := (if_neg c14).symm.trans hf
          refine lv_iconst (v := 0) hx hb dX3_isParted_95 (by decide) ?_
          have ho := Option.some.inj hf
          exact r_zret X hr hP hS rfl ho rfl dX3_isParted_96
        · have hf := (if_pos c14).symm.trans hf
          refine lv_aload hx hb dX3_isParted_75 (lv_at hl 2 rfl) ?_
          refine lv_iload_n hx hb dX3_isParted_77 rfl (lv_at hl 0 rfl) ?_
          obtain ⟨h15, hf⟩ := chk_in hf
          refine r_iald X hP 2 (wX3_g0_2 _ _ _) h15 dX3_isParted_78 ?_
          refine lv_aload hx hb dX3_isParted_79 (lv_at hl 2 rfl) ?_
          refine lv_iload_n hx hb dX3_isParted_81 rfl (lv_at hl 1 rfl) ?_
          obtain ⟨h16, hf⟩ := chk_in hf
          refine r_iald X hP 2 (wX3_g0_2 _ _ _) h16 dX3_isParted_82 ?_
          exact J1 x8 (σ 2 (p2 : Int32).toNatClampNeg) (σ 2 (p1 : Int32).toNatClampNeg) hf H locs ls hP hD hS (lv_sub hl [3] rfl)
    refine lv_if_ne (tgt := 34) hx hb dX3_isParted_24 (by decide) (fun c17 => ?_) (fun c17 => ?_)
    · have hf := (if_neg c17).symm.trans hf
      refine lv_aload_n hx hb dX3_isParted_34 rfl (lv_at hl 1 rfl) ?_
      refine r_get X hP 0 (wX3_g0_0 _ _ _) rfl inc_X3 3 (by decide) fl_X3_21 rfl dX3_isParted_35 ?_
      refine lv_astore (lv' := [(5, .ref (a 1)), (4, .ref (a 2)), (0, .ref (a 0)), (1, .int p1), (2, .int p2), (3, .int p3)]) hx hb dX3_isParted_38 hl (by decide) rfl (fun ls hl => ?_)
      refine lv_iload_n hx hb dX3_isParted_40 rfl (lv_at hl 5 rfl) ?_
      obtain ⟨z18, hz18, hf⟩ := obd hf
      refine cS_roI X (As := [.int p3]) (rest := []) (c_X3_lineOf l E p3 hz18) ps_X3_lineOf ml_X3_53 ⟨rfl, rfl⟩ ⟨(Nat.le_of_ble_eq_true rfl), (Nat.le_of_ble_eq_true rfl)⟩ hP hD hS (is := []) (wc := []) rfl rfl rfl hl.1 rfl (Nat.le_of_ble_eq_true rfl) dX3_isParted_41 ⟨Nat.le_refl _, Nat.le_refl _⟩ (fun H locs hP hS => ?_)
      refine lv_istore (lv' := [(6, .int z18), (5, .ref (a 1)), (4, .ref (a 2)), (0, .ref (a 0)), (1, .int p1), (2, .int p2), (3, .int p3)]) hx hb dX3_isParted_44 hl (by decide) rfl (fun ls hl => ?_)
      refine lv_aload hx hb dX3_isParted_46 (lv_at hl 1 rfl) ?_
      refine lv_iload_n hx hb dX3_isParted_48 rfl (lv_at hl 4 rfl) ?_
      obtain ⟨h19, hf⟩ := chk_in hf
      refine r_iald X hP 1 (wX3_g0_1 _ _ _) h19 dX3_isParted_49 ?_
      refine lv_aload hx hb dX3_isParted_50 (lv_at hl 1 rfl) ?_
      refine lv_iload_n hx hb dX3_isParted_52 rfl (lv_at hl 5 rfl) ?_
      obtain ⟨h20, hf⟩ := chk_in hf
      refine r_iald X hP 1 (wX3_g0_1 _ _ _) h20 dX3_isParted_53 ?_
      exact J2 z18 (σ 1 (p2 : Int32).toNatClampNeg) (σ 1 (p1 : Int32).toNatClampNeg) hf H locs ls hP hD hS (lv_sub hl [4, 5, 2, 0] rfl)
    · have hf := (if_pos c17).symm.trans hf
      refine lv_aload_n hx hb dX3_isParted_27 rfl (lv_at hl 1 rfl) ?_
      refine r_get X hP 0 (wX3_g0_0 _ _ _) rfl inc_X3 4 (by decide) fl_X3_25 rfl dX3_isParted_28 ?_
      refine lv_goto (tgt := 38) hx hb dX3_isParted_31 (by decide) ?_
      refine lv_astore (lv' := [(5, .ref (a 2)), (4, .ref (a 2)), (0, .ref (a 0)), (1, .int p1), (2, .int p2), (3, .int p3)]) hx hb dX3_isParted_38 hl (by decide) rfl (fun ls hl => ?_)
      refine lv_iload_n hx hb dX3_isParted_40 rfl (lv_at hl 5 rfl) ?_
      obtain ⟨z21, hz21, hf⟩ := obd hf
      refine cS_roI X (As := [.int p3]) (rest := []) (c_X3_lineOf l E p3 hz21) ps_X3_lineOf ml_X3_53 ⟨rfl, rfl⟩ ⟨(Nat.le_of_ble_eq_true rfl), (Nat.le_of_ble_eq_true rfl)⟩ hP hD hS (is := []) (wc := []) rfl rfl rfl hl.1 rfl (Nat.le_of_ble_eq_true rfl) dX3_isParted_41 ⟨Nat.le_refl _, Nat.le_refl _⟩ (fun H locs hP hS => ?_)
      refine lv_istore (lv' := [(6, .int z21), (5, .ref (a 2)), (4, .ref (a 2)), (0, .ref (a 0)), (1, .int p1), (2, .int p2), (3, .int p3)]) hx hb dX3_isParted_44 hl (by decide) rfl (fun ls hl => ?_)
      refine lv_aload hx hb dX3_isParted_46 (lv_at hl 1 rfl) ?_
      refine lv_iload_n hx hb dX3_isParted_48 rfl (lv_at hl 4 rfl) ?_
      obtain ⟨h22, hf⟩ := chk_in hf
      refine r_iald X hP 2 (wX3_g0_2 _ _ _) h22 dX3_isParted_49 ?_
      refine lv_aload hx hb dX3_isParted_50 (lv_at hl 1 rfl) ?_
      refine lv_iload_n hx hb dX3_isParted_52 rfl (lv_at hl 5 rfl) ?_
      obtain ⟨h23, hf⟩ := chk_in hf
      refine r_iald X hP 2 (wX3_g0_2 _ _ _) h23 dX3_isParted_53 ?_
      exact J2 z21 (σ 2 (p2 : Int32).toNatClampNeg) (σ 2 (p1 : Int32).toNatClampNeg) hf H locs ls hP hD hS (lv_sub hl [4, 5, 2, 0] rfl)
  · have hf := (if_pos c6).symm.trans hf
    refine lv_aload_n hx hb dX3_isParted_7 rfl (lv_at hl 0 rfl) ?_
    refine r_get X hP 0 (wX3_g0_0 _ _ _) rfl inc_X3 3 (by decide) fl_X3_21 rfl dX3_isParted_8 ?_
    refine lv_goto (tgt := 18) hx hb dX3_isParted_11 (by decide) ?_
    refine lv_astore (lv' := [(4, .ref (a 1)), (0, .ref (a 0)), (1, .int p1), (2, .int p2), (3, .int p3)]) hx hb dX3_isParted_18 hl (by decide) rfl (fun ls hl => ?_)
    refine lv_iload_n hx hb dX3_isParted_20 rfl (lv_at hl 4 rfl) ?_
    obtain ⟨z24, hz24, hf⟩ := obd hf
    refine cS_roI X (As := [.int p3]) (rest := []) (c_X3_axisOf l E p3 hz24) ps_X3_axisOf ml_X3_49 ⟨rfl, rfl⟩ ⟨(Nat.le_of_ble_eq_true rfl), (Nat.le_of_ble_eq_true rfl)⟩ hP hD hS (is := []) (wc := []) rfl rfl rfl hl.1 rfl (Nat.le_of_ble_eq_true rfl) dX3_isParted_21 ⟨Nat.le_refl _, Nat.le_refl _⟩ (fun H locs hP hS => ?_)
    have J3 : ∀ (x25 : Int32) (x26 : Int32) (x27 : Int32), j_X3_isParted_3 σ p1 p2 x25 x26 x27 = some out → ∀ (H : Heap) (locs : List Loc) (ls : Array Slot), va_P E.1 vwCl (wX3 E a σ) H → va_D A (wX3 E a σ) → va_S A s.heap H locs → lv_has ls 7 [(1, .int p1), (2, .int p2), (4, .ref (a 1)), (6, .int x25)] → W p l e rm_X3_isParted s m ([.ref (a 0), .int p1, .int p2, .int p3] : List Value).toArray below meth c H locs 0 0 (MQ below (va_Qi (fun x (_ : Unit) => x = out) (fun _ t => QW E (wX3 E a σ) t) A) ([.ref (a 0), .int p1, .int p2, .int p3] : List Value).toArray s 0 0 A) (F0 m 54 ls [.int x26, .int x27]) := by
      intro x25 x26 x27 hf H locs ls hP hD hS hl
      refine lv_icmp_ne (tgt := 95) hx hb dX3_isParted_54 (by decide) (fun c28 => ?_) (fun c28 => ?_)
      · have hf := (if_neg c28).symm.trans hf
        refine lv_iconst (v := 0) hx hb dX3_isParted_95 (by decide) ?_
        have ho := Option.some.inj hf
        exact r_zret X hr hP hS rfl ho rfl dX3_isParted_96
      · have hf := (if_pos c28).symm.trans hf
        refine lv_aload hx hb dX3_isParted_57 (lv_at hl 2 rfl) ?_
        refine lv_iload_n hx hb dX3_isParted_59 rfl (lv_at hl 0 rfl) ?_
        obtain ⟨h29, hf⟩ := chk_in hf
        refine r_iald X hP 1 (wX3_g0_1 _ _ _) h29 dX3_isParted_60 ?_
        refine lv_aload hx hb dX3_isParted_61 (lv_at hl 2 rfl) ?_
        refine lv_iload_n hx hb dX3_isParted_63 rfl (lv_at hl 1 rfl) ?_
        obtain ⟨h30, hf⟩ := chk_in hf
        refine r_iald X hP 1 (wX3_g0_1 _ _ _) h30 dX3_isParted_64 ?_
        refine r_min X hl.1 ml_X3_37 sm_Math_min ini_J9 cd_Math_min (Nat.le_of_ble_eq_true rfl) (Nat.le_of_ble_eq_true rfl) (Nat.le_refl _) (Nat.le_refl _) dX3_isParted_65 ?_
        refine lv_iload hx hb dX3_isParted_68 (lv_at hl 3 rfl) ?_
        refine lv_iconst (v := 1) hx hb dX3_isParted_70 (by decide) ?_
        refine lv_isub hx hb dX3_isParted_71 ?_
        refine lv_icmp_ne (tgt := 95) hx hb dX3_isParted_72 (by decide) (fun c31 => ?_) (fun c31 => ?_)
        · have hf := (if_neg c31).symm.trans hf
          refine lv_iconst (v := 0) hx hb dX3_isParted_95 (by decide) ?_
          have ho := Option.some.inj hf
          exact r_zret X hr hP hS rfl ho rfl dX3_isParted_96
        · have hf := (if_pos c31).symm.trans hf
          refine lv_aload hx hb dX3_isParted_75 (lv_at hl 2 rfl) ?_
          refine lv_iload_n hx hb dX3_isParted_77 rfl (lv_at hl 0 rfl) ?_
          obtain ⟨h32, hf⟩ := chk_in hf
          refine r_iald X hP 1 (wX3_g0_1 _ _ _) h32 dX3_isParted_78 ?_
          refine lv_aload hx hb dX3_isParted_79 (lv_at hl 2 rfl) ?_
          refine lv_iload_n hx hb dX3_isParted_81 rfl (lv_at hl 1 rfl) ?_
          obtain ⟨h33, hf⟩ := chk_in hf
          refine r_iald X hP 1 (wX3_g0_1 _ _ _) h33 dX3_isParted_82 ?_
          exact J1 x25 (σ 1 (p2 : Int32).toNatClampNeg) (σ 1 (p1 : Int32).toNatClampNeg) hf H locs ls hP hD hS (lv_sub hl [3] rfl)
    refine lv_if_ne (tgt := 34) hx hb dX3_isParted_24 (by decide) (fun c34 => ?_) (fun c34 => ?_)
    · have hf := (if_neg c34).symm.trans hf
      refine lv_aload_n hx hb dX3_isParted_34 rfl (lv_at hl 1 rfl) ?_
      refine r_get X hP 0 (wX3_g0_0 _ _ _) rfl inc_X3 3 (by decide) fl_X3_21 rfl dX3_isParted_35 ?_
      refine lv_astore (lv' := [(5, .ref (a 1)), (4, .ref (a 1)), (0, .ref (a 0)), (1, .int p1), (2, .int p2), (3, .int p3)]) hx hb dX3_isParted_38 hl (by decide) rfl (fun ls hl => ?_)
      refine lv_iload_n hx hb dX3_isParted_40 rfl (lv_at hl 5 rfl) ?_
      obtain ⟨z35, hz35, hf⟩ := obd hf
      refine cS_roI X (As := [.int p3]) (rest := []) (c_X3_lineOf l E p3 hz35) ps_X3_lineOf ml_X3_53 ⟨rfl, rfl⟩ ⟨(Nat.le_of_ble_eq_true rfl), (Nat.le_of_ble_eq_true rfl)⟩ hP hD hS (is := []) (wc := []) rfl rfl rfl hl.1 rfl (Nat.le_of_ble_eq_true rfl) dX3_isParted_41 ⟨Nat.le_refl _, Nat.le_refl _⟩ (fun H locs hP hS => ?_)
      refine lv_istore (lv' := [(6, .int z35), (5, .ref (a 1)), (4, .ref (a 1)), (0, .ref (a 0)), (1, .int p1), (2, .int p2), (3, .int p3)]) hx hb dX3_isParted_44 hl (by decide) rfl (fun ls hl => ?_)
      refine lv_aload hx hb dX3_isParted_46 (lv_at hl 1 rfl) ?_
      refine lv_iload_n hx hb dX3_isParted_48 rfl (lv_at hl 4 rfl) ?_
      obtain ⟨h36, hf⟩ := chk_in hf
      refine r_iald X hP 1 (wX3_g0_1 _ _ _) h36 dX3_isParted_49 ?_
      refine lv_aload hx hb dX3_isParted_50 (lv_at hl 1 rfl) ?_
      refine lv_iload_n hx hb dX3_isParted_52 rfl (lv_at hl 5 rfl) ?_
      obtain ⟨h37, hf⟩ := chk_in hf
      refine r_iald X hP 1 (wX3_g0_1 _ _ _) h37 dX3_isParted_53 ?_
      exact J3 z35 (σ 1 (p2 : Int32).toNatClampNeg) (σ 1 (p1 : Int32).toNatClampNeg) hf H locs ls hP hD hS (lv_sub hl [4, 5, 2, 0] rfl)
    · have hf := (if_pos c34).symm.trans hf
      refine lv_aload_n hx hb dX3_isParted_27 rfl (lv_at hl 1 rfl) ?_
      refine r_get X hP 0 (wX3_g0_0 _ _ _) rfl inc_X3 4 (by decide) fl_X3_25 rfl dX3_isParted_28 ?_
      refine lv_goto (tgt := 38) hx hb dX3_isParted_31 (by decide) ?_
      refine lv_astore (lv' := [(5, .ref (a 2)), (4, .ref (a 1)), (0, .ref (a 0)), (1, .int p1), (2, .int p2), (3, .int p3)]) hx hb dX3_isParted_38 hl (by decide) rfl (fun ls hl => ?_)
      refine lv_iload_n hx hb dX3_isParted_40 rfl (lv_at hl 5 rfl) ?_
      obtain ⟨z38, hz38, hf⟩ := obd hf
      refine cS_roI X (As := [.int p3]) (rest := []) (c_X3_lineOf l E p3 hz38) ps_X3_lineOf ml_X3_53 ⟨rfl, rfl⟩ ⟨(Nat.le_of_ble_eq_true rfl), (Nat.le_of_ble_eq_true rfl)⟩ hP hD hS (is := []) (wc := []) rfl rfl rfl hl.1 rfl (Nat.le_of_ble_eq_true rfl) dX3_isParted_41 ⟨Nat.le_refl _, Nat.le_refl _⟩ (fun H locs hP hS => ?_)
      refine lv_istore (lv' := [(6, .int z38), (5, .ref (a 2)), (4, .ref (a 1)), (0, .ref (a 0)), (1, .int p1), (2, .int p2), (3, .int p3)]) hx hb dX3_isParted_44 hl (by decide) rfl (fun ls hl => ?_)
      refine lv_aload hx hb dX3_isParted_46 (lv_at hl 1 rfl) ?_
      refine lv_iload_n hx hb dX3_isParted_48 rfl (lv_at hl 4 rfl) ?_
      obtain ⟨h39, hf⟩ := chk_in hf
      refine r_iald X hP 2 (wX3_g0_2 _ _ _) h39 dX3_isParted_49 ?_
      refine lv_aload hx hb dX3_isParted_50 (lv_at hl 1 rfl) ?_
      refine lv_iload_n hx hb dX3_isParted_52 rfl (lv_at hl 5 rfl) ?_
      obtain ⟨h40, hf⟩ := chk_in hf
      refine r_iald X hP 2 (wX3_g0_2 _ _ _) h40 dX3_isParted_53 ?_
      exact J3 z38 (σ 2 (p2 : Int32).toNatClampNeg) (σ 2 (p1 : Int32).toNatClampNeg) hf H locs ls hP hD hS (lv_sub hl [4, 5, 2, 0] rfl)
def rm_X0_bend : Room := { frames := 2, cells := 0, slots := 0, locals := 47 }
theorem pv_X0_bend : PkV RX0 yX0_bend cX0_bend 4 none 2 := ⟨im_X0_bend, se_X0_bend, ini_X0, cd_X0_bend, by decide +kernel⟩
set_option maxHeartbeats 4000000 in
set_option maxRecDepth 100000 in
theorem c_X0_bend (l : Launch) (E : Ev) (a : Nat → Nat) (σ : Sg) (b : Nat → Nat) (τ : Sg) (p1 : Int32) {out : Sg} (hf : f_X0_bend σ τ p1 = some out) : MtV l yX0_bend (wl yX0_bend cX0_bend 4 none) rm_X0_bend E [.ref (a 0), .ref (b 0), .int p1] (wX0X3 E a σ b τ) (wX0X3 E a out b τ) := by
  refine mt_of (QQ := (fun A => va_Qv (fun _ : Unit => True) (fun _ t => QW E (wX0X3 E a out b τ) t) A)) (by decide) (Nat.le_of_ble_eq_true rfl) (fun p e s m below meth c A ls X hr hP hD hS hl => ?_)
  have hx := X.1.1
  have hb := X.1.2.1
  have hl : lv_has ls 4 [(0, .ref (a 0)), (1, .ref (b 0)), (2, .int p1)] := hl
  obtain ⟨H, hHe⟩ : ∃ H : Heap, H = s.heap := ⟨_, rfl⟩
  obtain ⟨locs, hLe⟩ : ∃ locs : List Loc, locs = [] := ⟨_, rfl⟩
  have hP : va_P E.1 vwCl (wX0X3 E a σ b τ) H := by rw [hHe]; exact hP
  have hS : va_S A s.heap H locs := by rw [hHe, hLe]; exact hS
  rw [← hLe, show W p l e rm_X0_bend s m ([.ref (a 0), .ref (b 0), .int p1] : List Value).toArray below meth c s.heap locs 0 0 = W p l e rm_X0_bend s m ([.ref (a 0), .ref (b 0), .int p1] : List Value).toArray below meth c H locs 0 0 from by rw [hHe]]
  refine lv_iconst (v := 0) hx hb dX0_bend_0 (by decide) ?_
  refine lv_istore_n (lv' := [(3, .int 0), (0, .ref (a 0)), (1, .ref (b 0)), (2, .int p1)]) hx hb dX0_bend_1 rfl hl (by decide) rfl (fun ls hl => ?_)
  have L3 := lc2_ind (o := out) (step := (s_X0_bend_2 τ p1)) (fun x1 g2 => ∀ (H : Heap) (locs : List Loc) (ls : Array Slot), va_P E.1 vwCl (wX0X3 E a g2 b τ) H → va_D A (wX0X3 E a g2 b τ) → va_S A s.heap H locs → lv_has ls 4 [(0, .ref (a 0)), (1, .ref (b 0)), (2, .int p1), (3, .int x1)] → W p l e rm_X0_bend s m ([.ref (a 0), .ref (b 0), .int p1] : List Value).toArray below meth c H locs 0 0 (MQ below (va_Qv (fun _ : Unit => True) (fun _ t => QW E (wX0X3 E a out b τ) t) A) ([.ref (a 0), .ref (b 0), .int p1] : List Value).toArray s 0 0 A) (F0 m 2 ls [])) (fun x1 g2 k3 ih3 hf H locs ls hP hD hS hl => by
    refine lv_iload_n hx hb dX0_bend_2 rfl (lv_at hl 3 rfl) ?_
    refine lv_aload_n hx hb dX0_bend_3 rfl (lv_at hl 0 rfl) ?_
    refine r_get X hP 0 (wX0X3_g0_0 _ _ _ _ _) rfl inc_X0 0 (by decide) fl_X0_9 rfl dX0_bend_4 ?_
    refine lv_icmp_ge (tgt := 46) hx hb dX0_bend_7 (by decide) (fun c4 => ?_) (fun c4 => ?_)
    · have hf := (if_pos c4).symm.trans hf
      have ho := Option.some.inj hf
      have hw := congrArg (fun o : Sg => (wX0X3 E a o b τ)) ho
      exact r_vret X hr hP hS hw dX0_bend_46
    · have hf := (if_neg c4).symm.trans hf
      refine lv_aload_n hx hb dX0_bend_10 rfl (lv_at hl 1 rfl) ?_
      refine lv_aload_n hx hb dX0_bend_11 rfl (lv_at hl 0 rfl) ?_
      refine r_get X hP 0 (wX0X3_g0_0 _ _ _ _ _) rfl inc_X0 1 (by decide) fl_X0_15 rfl dX0_bend_12 ?_
      refine lv_iload_n hx hb dX0_bend_15 rfl (lv_at hl 3 rfl) ?_
      obtain ⟨h5, hf⟩ := chk_in hf
      refine r_iald X hP 1 (wX0X3_g0_1 _ _ _ _ _) h5 dX0_bend_16 ?_
      refine lv_aload_n hx hb dX0_bend_17 rfl (lv_at hl 0 rfl) ?_
      refine r_get X hP 0 (wX0X3_g0_0 _ _ _ _ _) rfl inc_X0 2 (by decide) fl_X0_19 rfl dX0_bend_18 ?_
      refine lv_iload_n hx hb dX0_bend_21 rfl (lv_at hl 3 rfl) ?_
      obtain ⟨h6, hf⟩ := chk_in hf
      refine r_iald X hP 2 (wX0X3_g0_2 _ _ _ _ _) h6 dX0_bend_22 ?_
      refine lv_iload_n hx hb dX0_bend_23 rfl (lv_at hl 2 rfl) ?_
      obtain ⟨z7, hz7, hf⟩ := obd hf
      refine cV_roI X (As := [.int (g2 1 (x1 : Int32).toNatClampNeg), .int (g2 2 (x1 : Int32).toNatClampNeg), .int p1]) (rest := []) (c_X3_isParted l E b τ (g2 1 (x1 : Int32).toNatClampNeg) (g2 2 (x1 : Int32).toNatClampNeg) p1 hz7) pv_X3_isParted ml_X0_49 ⟨rfl, rfl⟩ ⟨(Nat.le_of_ble_eq_true rfl), (Nat.le_of_ble_eq_true rfl)⟩ hP hD hS (wX0X3_b_1_0_X3 _ _ _ _ _) rfl (wX3_g0_0 _ _ _) rfl rfl hl.1 rfl (Nat.le_of_ble_eq_true rfl) dX0_bend_24 ⟨Nat.le_refl _, Nat.le_refl _⟩ (fun H locs hP hS => ?_)
      refine lv_if_eq (tgt := 40) hx hb dX0_bend_27 (by decide) (fun c8 => ?_) (fun c8 => ?_)
      · have hf := (if_pos c8).symm.trans hf
        refine lv_iinc (v := (x1 + 1)) (lv' := [(3, .int (x1 + 1)), (0, .ref (a 0)), (1, .ref (b 0)), (2, .int p1)]) hx hb dX0_bend_40 hl (k := 3) rfl rfl (by decide) rfl (fun ls hl => ?_)
        refine lv_goto (tgt := 2) hx hb dX0_bend_43 (by decide) ?_
        exact ih3 (x1 + 1) g2 hf H locs ls hP hD hS (lv_sub hl [1, 2, 3, 0] rfl)
      · have hf := (if_neg c8).symm.trans hf
        refine lv_aload_n hx hb dX0_bend_30 rfl (lv_at hl 0 rfl) ?_
        refine r_get X hP 0 (wX0X3_g0_0 _ _ _ _ _) rfl inc_X0 3 (by decide) fl_X0_22 rfl dX0_bend_31 ?_
        refine lv_iload_n hx hb dX0_bend_34 rfl (lv_at hl 3 rfl) ?_
        refine lv_dup2_11 hx hb dX0_bend_35 rfl rfl ?_
        obtain ⟨h9, hf⟩ := chk_in hf
        refine r_iald X hP 3 (wX0X3_g0_3 _ _ _ _ _) h9 dX0_bend_36 ?_
        refine lv_iconst (v := 1) hx hb dX0_bend_37 (by decide) ?_
        refine lv_iadd hx hb dX0_bend_38 ?_
        obtain ⟨h10, hf⟩ := chk_in hf
        refine r_iast X hP hD hS 3 (wX0X3_g0_3 _ _ _ _ _) h10 (wX0X3_t0_3 _ _ _ _ _ _ _) dX0_bend_39 (fun H locs hP hD hS => ?_)
        refine lv_iinc (v := (x1 + 1)) (lv' := [(3, .int (x1 + 1)), (0, .ref (a 0)), (1, .ref (b 0)), (2, .int p1)]) hx hb dX0_bend_40 hl (k := 3) rfl rfl (by decide) rfl (fun ls hl => ?_)
        refine lv_goto (tgt := 2) hx hb dX0_bend_43 (by decide) ?_
        exact ih3 (x1 + 1) (sg_st g2 3 (x1 : Int32).toNatClampNeg ((g2 3 (x1 : Int32).toNatClampNeg) + 1)) hf H locs ls hP hD hS (lv_sub hl [1, 2, 3, 0] rfl))
  exact L3 1000 0 σ hf H locs ls hP hD hS (lv_sub hl [1, 2, 3, 0] rfl)
def rm_X0_find : Room := { frames := 1, cells := 0, slots := 0, locals := 21 }
theorem pv_X0_find : PkV RX0 yX0_find cX0_find 6 (some .int) 2 := ⟨im_X0_find, se_X0_find, ini_X0, cd_X0_find, by decide +kernel⟩
set_option maxHeartbeats 4000000 in
set_option maxRecDepth 100000 in
theorem c_X0_find (l : Launch) (E : Ev) (a : Nat → Nat) (σ : Sg) (p1 : Int32) (p2 : Int32) {out : Int32} (hf : f_X0_find σ p1 p2 = some out) : MtI l yX0_find (wl yX0_find cX0_find 6 (some .int)) rm_X0_find E [.ref (a 0), .int p1, .int p2] (wX0 E a σ) out (wX0 E a σ) := by
  refine mt_of (QQ := (fun A => va_Qi (fun x (_ : Unit) => x = out) (fun _ t => QW E (wX0 E a σ) t) A)) (by decide) (Nat.le_of_ble_eq_true rfl) (fun p e s m below meth c A ls X hr hP hD hS hl => ?_)
  have hx := X.1.1
  have hb := X.1.2.1
  have hl : lv_has ls 6 [(0, .ref (a 0)), (1, .int p1), (2, .int p2)] := hl
  obtain ⟨H, hHe⟩ : ∃ H : Heap, H = s.heap := ⟨_, rfl⟩
  obtain ⟨locs, hLe⟩ : ∃ locs : List Loc, locs = [] := ⟨_, rfl⟩
  have hP : va_P E.1 vwCl (wX0 E a σ) H := by rw [hHe]; exact hP
  have hS : va_S A s.heap H locs := by rw [hHe, hLe]; exact hS
  rw [← hLe, show W p l e rm_X0_find s m ([.ref (a 0), .int p1, .int p2] : List Value).toArray below meth c s.heap locs 0 0 = W p l e rm_X0_find s m ([.ref (a 0), .int p1, .int p2] : List Value).toArray below meth c H locs 0 0 from by rw [hHe]]
  refine lv_iload_n hx hb dX0_find_0 rfl (lv_at hl 1 rfl) ?_
  refine lv_iload_n hx hb dX0_find_1 rfl (lv_at hl 2 rfl) ?_
  refine r_min X hl.1 ml_X0_42 sm_Math_min ini_J9 cd_Math_min (Nat.le_of_ble_eq_true rfl) (Nat.le_of_ble_eq_true rfl) (Nat.le_refl _) (Nat.le_refl _) dX0_find_2 ?_
  refine lv_istore_n (lv' := [(3, .int (if p2 < p1 then p2 else p1)), (0, .ref (a 0)), (1, .int p1), (2, .int p2)]) hx hb dX0_find_5 rfl hl (by decide) rfl (fun ls hl => ?_)
  refine lv_iload_n hx hb dX0_find_6 rfl (lv_at hl 2 rfl) ?_
  refine lv_iload_n hx hb dX0_find_7 rfl (lv_at hl 3 rfl) ?_
  refine r_max X hl.1 ml_X0_46 sm_Math_max ini_J9 cd_Math_max (Nat.le_of_ble_eq_true rfl) (Nat.le_of_ble_eq_true rfl) (Nat.le_refl _) (Nat.le_refl _) dX0_find_8 ?_
  refine lv_istore (lv' := [(4, .int (if p1 < p2 then p2 else p1)), (3, .int (if p2 < p1 then p2 else p1)), (0, .ref (a 0)), (1, .int p1), (2, .int p2)]) hx hb dX0_find_11 hl (by decide) rfl (fun ls hl => ?_)
  refine lv_iconst (v := 0) hx hb dX0_find_13 (by decide) ?_
  refine lv_istore (lv' := [(5, .int 0), (4, .int (if p1 < p2 then p2 else p1)), (3, .int (if p2 < p1 then p2 else p1)), (0, .ref (a 0)), (1, .int p1), (2, .int p2)]) hx hb dX0_find_14 hl (by decide) rfl (fun ls hl => ?_)
  have L2 := lc1_ind (o := out) (step := (s_X0_find_16 σ p1 p2)) (fun x1 => ∀ (H : Heap) (locs : List Loc) (ls : Array Slot), va_P E.1 vwCl (wX0 E a σ) H → va_D A (wX0 E a σ) → va_S A s.heap H locs → lv_has ls 6 [(0, .ref (a 0)), (3, .int (if p2 < p1 then p2 else p1)), (4, .int (if p1 < p2 then p2 else p1)), (5, .int x1)] → W p l e rm_X0_find s m ([.ref (a 0), .int p1, .int p2] : List Value).toArray below meth c H locs 0 0 (MQ below (va_Qi (fun x (_ : Unit) => x = out) (fun _ t => QW E (wX0 E a σ) t) A) ([.ref (a 0), .int p1, .int p2] : List Value).toArray s 0 0 A) (F0 m 16 ls [])) (fun x1 k2 ih2 hf H locs ls hP hD hS hl => by
    refine lv_iload hx hb dX0_find_16 (lv_at hl 3 rfl) ?_
    refine lv_aload_n hx hb dX0_find_18 rfl (lv_at hl 0 rfl) ?_
    refine r_get X hP 0 (wX0_g0_0 _ _ _) rfl inc_X0 0 (by decide) fl_X0_9 rfl dX0_find_19 ?_
    refine lv_icmp_ge (tgt := 57) hx hb dX0_find_22 (by decide) (fun c3 => ?_) (fun c3 => ?_)
    · have hf := (if_pos c3).symm.trans hf
      refine lv_bipush (v := (-9)) hx hb dX0_find_57 (by decide) ?_
      have ho := Option.some.inj hf
      exact r_iret X hr hP hS ho rfl dX0_find_59
    · have hf := (if_neg c3).symm.trans hf
      refine lv_aload_n hx hb dX0_find_25 rfl (lv_at hl 0 rfl) ?_
      refine r_get X hP 0 (wX0_g0_0 _ _ _) rfl inc_X0 1 (by decide) fl_X0_15 rfl dX0_find_26 ?_
      refine lv_iload hx hb dX0_find_29 (lv_at hl 3 rfl) ?_
      obtain ⟨h4, hf⟩ := chk_in hf
      refine r_iald X hP 1 (wX0_g0_1 _ _ _) h4 dX0_find_31 ?_
      refine lv_iload_n hx hb dX0_find_32 rfl (lv_at hl 1 rfl) ?_
      refine lv_icmp_ne (tgt := 51) hx hb dX0_find_33 (by decide) (fun c5 => ?_) (fun c5 => ?_)
      · have hf := (if_neg c5).symm.trans hf
        refine lv_iinc (v := (x1 + 1)) (lv' := [(5, .int (x1 + 1)), (0, .ref (a 0)), (3, .int (if p2 < p1 then p2 else p1)), (4, .int (if p1 < p2 then p2 else p1))]) hx hb dX0_find_51 hl (k := 3) rfl rfl (by decide) rfl (fun ls hl => ?_)
        refine lv_goto (tgt := 16) hx hb dX0_find_54 (by decide) ?_
        exact ih2 (x1 + 1) hf H locs ls hP hD hS (lv_sub hl [1, 2, 3, 0] rfl)
      · have hf := (if_pos c5).symm.trans hf
        refine lv_aload_n hx hb dX0_find_36 rfl (lv_at hl 0 rfl) ?_
        refine r_get X hP 0 (wX0_g0_0 _ _ _) rfl inc_X0 2 (by decide) fl_X0_19 rfl dX0_find_37 ?_
        refine lv_iload hx hb dX0_find_40 (lv_at hl 3 rfl) ?_
        obtain ⟨h6, hf⟩ := chk_in hf
        refine r_iald X hP 2 (wX0_g0_2 _ _ _) h6 dX0_find_42 ?_
        refine lv_iload hx hb dX0_find_43 (lv_at hl 2 rfl) ?_
        refine lv_icmp_ne (tgt := 51) hx hb dX0_find_45 (by decide) (fun c7 => ?_) (fun c7 => ?_)
        · have hf := (if_neg c7).symm.trans hf
          refine lv_iinc (v := (x1 + 1)) (lv' := [(5, .int (x1 + 1)), (0, .ref (a 0)), (3, .int (if p2 < p1 then p2 else p1)), (4, .int (if p1 < p2 then p2 else p1))]) hx hb dX0_find_51 hl (k := 3) rfl rfl (by decide) rfl (fun ls hl => ?_)
          refine lv_goto (tgt := 16) hx hb dX0_find_54 (by decide) ?_
          exact ih2 (x1 + 1) hf H locs ls hP hD hS (lv_sub hl [1, 2, 3, 0] rfl)
        · have hf := (if_pos c7).symm.trans hf
          refine lv_iload hx hb dX0_find_48 (lv_at hl 3 rfl) ?_
          have ho := Option.some.inj hf
          exact r_iret X hr hP hS ho rfl dX0_find_50)
  exact L2 1000 0 hf H locs ls hP hD hS (lv_sub hl [3, 2, 1, 0] rfl)
def rm_X0_layOut : Room := { frames := 1, cells := 0, slots := 0, locals := 21 }
theorem pv_X0_layOut : PkV RX0 yX0_layOut cX0_layOut 5 none 1 := ⟨im_X0_layOut, se_X0_layOut, ini_X0, cd_X0_layOut, by decide +kernel⟩
set_option maxHeartbeats 4000000 in
set_option maxRecDepth 100000 in
theorem c_X0_layOut (l : Launch) (E : Ev) (a : Nat → Nat) (σ : Sg) (b : Nat → Nat) (τ : Sg) {out : Sg} (hf : f_X0_layOut σ τ = some out) : MtV l yX0_layOut (wl yX0_layOut cX0_layOut 5 none) rm_X0_layOut E [.ref (a 0), .ref (b 0)] (wX0X3 E a σ b τ) (wX0X3 E a out b τ) := by
  refine mt_of (QQ := (fun A => va_Qv (fun _ : Unit => True) (fun _ t => QW E (wX0X3 E a out b τ) t) A)) (by decide) (Nat.le_of_ble_eq_true rfl) (fun p e s m below meth c A ls X hr hP hD hS hl => ?_)
  have hx := X.1.1
  have hb := X.1.2.1
  have hl : lv_has ls 5 [(0, .ref (a 0)), (1, .ref (b 0))] := hl
  obtain ⟨H, hHe⟩ : ∃ H : Heap, H = s.heap := ⟨_, rfl⟩
  obtain ⟨locs, hLe⟩ : ∃ locs : List Loc, locs = [] := ⟨_, rfl⟩
  have hP : va_P E.1 vwCl (wX0X3 E a σ b τ) H := by rw [hHe]; exact hP
  have hS : va_S A s.heap H locs := by rw [hHe, hLe]; exact hS
  rw [← hLe, show W p l e rm_X0_layOut s m ([.ref (a 0), .ref (b 0)] : List Value).toArray below meth c s.heap locs 0 0 = W p l e rm_X0_layOut s m ([.ref (a 0), .ref (b 0)] : List Value).toArray below meth c H locs 0 0 from by rw [hHe]]
  refine lv_aload_n hx hb dX0_layOut_0 rfl (lv_at hl 0 rfl) ?_
  refine lv_iconst (v := 0) hx hb dX0_layOut_1 (by decide) ?_
  refine r_put X hP hD hS 0 (wX0X3_g0_0 _ _ _ _ _) rfl inc_X0 tyX0 tyX0_ok nmX0 0 (by decide) fl_X0_9 rfl (ty := .int) rfl rfl rfl (Nat.le_of_ble_eq_true rfl) (wX0X3_s0_0_0 _ _ _ _ _ _) dX0_layOut_2 (fun H locs hP hD hS => ?_)
  refine lv_iconst (v := 0) hx hb dX0_layOut_5 (by decide) ?_
  refine lv_istore_n (lv' := [(2, .int 0), (0, .ref (a 0)), (1, .ref (b 0))]) hx hb dX0_layOut_6 rfl hl (by decide) rfl (fun ls hl => ?_)
  have L3 := lc2_ind (o := out) (step := (s_X0_layOut_7 τ)) (fun x1 g2 => ∀ (H : Heap) (locs : List Loc) (ls : Array Slot), va_P E.1 vwCl (wX0X3 E a g2 b τ) H → va_D A (wX0X3 E a g2 b τ) → va_S A s.heap H locs → lv_has ls 5 [(0, .ref (a 0)), (1, .ref (b 0)), (2, .int x1)] → W p l e rm_X0_layOut s m ([.ref (a 0), .ref (b 0)] : List Value).toArray below meth c H locs 0 0 (MQ below (va_Qv (fun _ : Unit => True) (fun _ t => QW E (wX0X3 E a out b τ) t) A) ([.ref (a 0), .ref (b 0)] : List Value).toArray s 0 0 A) (F0 m 7 ls [])) (fun x1 g2 k3 ih3 hf H locs ls hP hD hS hl => by
    refine lv_iload_n hx hb dX0_layOut_7 rfl (lv_at hl 2 rfl) ?_
    refine lv_aload_n hx hb dX0_layOut_8 rfl (lv_at hl 1 rfl) ?_
    refine r_get X hP 4 (wX0X3_g1_0 _ _ _ _ _) rfl inc_X3 0 (by decide) fl_X0_25 rfl dX0_layOut_9 ?_
    refine lv_icmp_ge (tgt := 119) hx hb dX0_layOut_12 (by decide) (fun c4 => ?_) (fun c4 => ?_)
    · have hf := (if_pos c4).symm.trans hf
      have ho := Option.some.inj hf
      have hw := congrArg (fun o : Sg => (wX0X3 E a o b τ)) ho
      exact r_vret X hr hP hS hw dX0_layOut_119
    · have hf := (if_neg c4).symm.trans hf
      refine lv_iload_n hx hb dX0_layOut_15 rfl (lv_at hl 2 rfl) ?_
      refine lv_iconst (v := 1) hx hb dX0_layOut_16 (by decide) ?_
      refine lv_iadd hx hb dX0_layOut_17 ?_
      refine lv_istore_n (lv' := [(3, .int (x1 + 1)), (0, .ref (a 0)), (1, .ref (b 0)), (2, .int x1)]) hx hb dX0_layOut_18 rfl hl (by decide) rfl (fun ls hl => ?_)
      have L7 := lc2_ind (o := out) (step := (s_X0_layOut_19 τ x1 k3)) (fun x5 g6 => ∀ (H : Heap) (locs : List Loc) (ls : Array Slot), va_P E.1 vwCl (wX0X3 E a g6 b τ) H → va_D A (wX0X3 E a g6 b τ) → va_S A s.heap H locs → lv_has ls 5 [(0, .ref (a 0)), (1, .ref (b 0)), (2, .int x1), (3, .int x5)] → W p l e rm_X0_layOut s m ([.ref (a 0), .ref (b 0)] : List Value).toArray below meth c H locs 0 0 (MQ below (va_Qv (fun _ : Unit => True) (fun _ t => QW E (wX0X3 E a out b τ) t) A) ([.ref (a 0), .ref (b 0)] : List Value).toArray s 0 0 A) (F0 m 19 ls [])) (fun x5 g6 k7 ih7 hf H locs ls hP hD hS hl => by
        refine lv_iload_n hx hb dX0_layOut_19 rfl (lv_at hl 3 rfl) ?_
        refine lv_aload_n hx hb dX0_layOut_20 rfl (lv_at hl 1 rfl) ?_
        refine r_get X hP 4 (wX0X3_g1_0 _ _ _ _ _) rfl inc_X3 0 (by decide) fl_X0_25 rfl dX0_layOut_21 ?_
        refine lv_icmp_ge (tgt := 113) hx hb dX0_layOut_24 (by decide) (fun c8 => ?_) (fun c8 => ?_)
        · have hf := (if_pos c8).symm.trans hf
          refine lv_iinc (v := (x1 + 1)) (lv' := [(2, .int (x1 + 1)), (0, .ref (a 0)), (1, .ref (b 0)), (3, .int x5)]) hx hb dX0_layOut_113 hl (k := 2) rfl rfl (by decide) rfl (fun ls hl => ?_)
          refine lv_goto (tgt := 7) hx hb dX0_layOut_116 (by decide) ?_
          exact ih3 (x1 + 1) g6 hf H locs ls hP hD hS (lv_sub hl [1, 2, 0] rfl)
        · have hf := (if_neg c8).symm.trans hf
          refine lv_aload_n hx hb dX0_layOut_27 rfl (lv_at hl 1 rfl) ?_
          refine r_get X hP 4 (wX0X3_g1_0 _ _ _ _ _) rfl inc_X3 3 (by decide) fl_X0_30 rfl dX0_layOut_28 ?_
          refine lv_iload_n hx hb dX0_layOut_31 rfl (lv_at hl 2 rfl) ?_
          obtain ⟨h9, hf⟩ := chk_in hf
          refine r_iald X hP 5 (wX0X3_g1_1 _ _ _ _ _) h9 dX0_layOut_32 ?_
          refine lv_aload_n hx hb dX0_layOut_33 rfl (lv_at hl 1 rfl) ?_
          refine r_get X hP 4 (wX0X3_g1_0 _ _ _ _ _) rfl inc_X3 3 (by decide) fl_X0_30 rfl dX0_layOut_34 ?_
          refine lv_iload_n hx hb dX0_layOut_37 rfl (lv_at hl 3 rfl) ?_
          obtain ⟨h10, hf⟩ := chk_in hf
          refine r_iald X hP 5 (wX0X3_g1_1 _ _ _ _ _) h10 dX0_layOut_38 ?_
          refine lv_isub hx hb dX0_layOut_39 ?_
          refine r_abs X hl.1 ml_X0_33 sm_Math_abs ini_J9 cd_Math_abs (Nat.le_of_ble_eq_true rfl) (Nat.le_of_ble_eq_true rfl) (Nat.le_refl _) (Nat.le_refl _) dX0_layOut_40 ?_
          refine lv_aload_n hx hb dX0_layOut_43 rfl (lv_at hl 1 rfl) ?_
          refine r_get X hP 4 (wX0X3_g1_0 _ _ _ _ _) rfl inc_X3 4 (by decide) fl_X0_39 rfl dX0_layOut_44 ?_
          refine lv_iload_n hx hb dX0_layOut_47 rfl (lv_at hl 2 rfl) ?_
          obtain ⟨h11, hf⟩ := chk_in hf
          refine r_iald X hP 6 (wX0X3_g1_2 _ _ _ _ _) h11 dX0_layOut_48 ?_
          refine lv_aload_n hx hb dX0_layOut_49 rfl (lv_at hl 1 rfl) ?_
          refine r_get X hP 4 (wX0X3_g1_0 _ _ _ _ _) rfl inc_X3 4 (by decide) fl_X0_39 rfl dX0_layOut_50 ?_
          refine lv_iload_n hx hb dX0_layOut_53 rfl (lv_at hl 3 rfl) ?_
          obtain ⟨h12, hf⟩ := chk_in hf
          refine r_iald X hP 6 (wX0X3_g1_2 _ _ _ _ _) h12 dX0_layOut_54 ?_
          refine lv_isub hx hb dX0_layOut_55 ?_
          refine r_abs X hl.1 ml_X0_33 sm_Math_abs ini_J9 cd_Math_abs (Nat.le_of_ble_eq_true rfl) (Nat.le_of_ble_eq_true rfl) (Nat.le_refl _) (Nat.le_refl _) dX0_layOut_56 ?_
          refine lv_iadd hx hb dX0_layOut_59 ?_
          refine lv_istore (lv' := [(4, .int ((if 0 ≤ ((τ 1 (x1 : Int32).toNatClampNeg) - (τ 1 (x5 : Int32).toNatClampNeg)) then ((τ 1 (x1 : Int32).toNatClampNeg) - (τ 1 (x5 : Int32).toNatClampNeg)) else 0 - ((τ 1 (x1 : Int32).toNatClampNeg) - (τ 1 (x5 : Int32).toNatClampNeg))) + (if 0 ≤ ((τ 2 (x1 : Int32).toNatClampNeg) - (τ 2 (x5 : Int32).toNatClampNeg)) then ((τ 2 (x1 : Int32).toNatClampNeg) - (τ 2 (x5 : Int32).toNatClampNeg)) else 0 - ((τ 2 (x1 : Int32).toNatClampNeg) - (τ 2 (x5 : Int32).toNatClampNeg))))), (0, .ref (a 0)), (1, .ref (b 0)), (2, .int x1), (3, .int x5)]) hx hb dX0_layOut_60 hl (by decide) rfl (fun ls hl => ?_)
          refine lv_iload hx hb dX0_layOut_62 (lv_at hl 0 rfl) ?_
          refine lv_iconst (v := 1) hx hb dX0_layOut_64 (by decide) ?_
          refine lv_icmp_ne (tgt := 107) hx hb dX0_layOut_65 (by decide) (fun c13 => ?_) (fun c13 => ?_)
          · have hf := (if_neg c13).symm.trans hf
            refine lv_iinc (v := (x5 + 1)) (lv' := [(3, .int (x5 + 1)), (4, .int ((if 0 ≤ ((τ 1 (x1 : Int32).toNatClampNeg) - (τ 1 (x5 : Int32).toNatClampNeg)) then ((τ 1 (x1 : Int32).toNatClampNeg) - (τ 1 (x5 : Int32).toNatClampNeg)) else 0 - ((τ 1 (x1 : Int32).toNatClampNeg) - (τ 1 (x5 : Int32).toNatClampNeg))) + (if 0 ≤ ((τ 2 (x1 : Int32).toNatClampNeg) - (τ 2 (x5 : Int32).toNatClampNeg)) then ((τ 2 (x1 : Int32).toNatClampNeg) - (τ 2 (x5 : Int32).toNatClampNeg)) else 0 - ((τ 2 (x1 : Int32).toNatClampNeg) - (τ 2 (x5 : Int32).toNatClampNeg))))), (0, .ref (a 0)), (1, .ref (b 0)), (2, .int x1)]) hx hb dX0_layOut_107 hl (k := 4) rfl rfl (by decide) rfl (fun ls hl => ?_)
            refine lv_goto (tgt := 19) hx hb dX0_layOut_110 (by decide) ?_
            exact ih7 (x5 + 1) g6 hf H locs ls hP hD hS (lv_sub hl [2, 3, 4, 0] rfl)
          · have hf := (if_pos c13).symm.trans hf
            refine lv_aload_n hx hb dX0_layOut_68 rfl (lv_at hl 1 rfl) ?_
            refine r_get X hP 0 (wX0X3_g0_0 _ _ _ _ _) rfl inc_X0 0 (by decide) fl_X0_9 rfl dX0_layOut_69 ?_
            refine lv_bipush (v := 24) hx hb dX0_layOut_72 (by decide) ?_
            refine lv_icmp_ge (tgt := 107) hx hb dX0_layOut_74 (by decide) (fun c14 => ?_) (fun c14 => ?_)
            · have hf := (if_pos c14).symm.trans hf
              refine lv_iinc (v := (x5 + 1)) (lv' := [(3, .int (x5 + 1)), (4, .int ((if 0 ≤ ((τ 1 (x1 : Int32).toNatClampNeg) - (τ 1 (x5 : Int32).toNatClampNeg)) then ((τ 1 (x1 : Int32).toNatClampNeg) - (τ 1 (x5 : Int32).toNatClampNeg)) else 0 - ((τ 1 (x1 : Int32).toNatClampNeg) - (τ 1 (x5 : Int32).toNatClampNeg))) + (if 0 ≤ ((τ 2 (x1 : Int32).toNatClampNeg) - (τ 2 (x5 : Int32).toNatClampNeg)) then ((τ 2 (x1 : Int32).toNatClampNeg) - (τ 2 (x5 : Int32).toNatClampNeg)) else 0 - ((τ 2 (x1 : Int32).toNatClampNeg) - (τ 2 (x5 : Int32).toNatClampNeg))))), (0, .ref (a 0)), (1, .ref (b 0)), (2, .int x1)]) hx hb dX0_layOut_107 hl (k := 4) rfl rfl (by decide) rfl (fun ls hl => ?_)
              refine lv_goto (tgt := 19) hx hb dX0_layOut_110 (by decide) ?_
              exact ih7 (x5 + 1) g6 hf H locs ls hP hD hS (lv_sub hl [2, 3, 4, 0] rfl)
            · have hf := (if_neg c14).symm.trans hf
              refine lv_aload_n hx hb dX0_layOut_77 rfl (lv_at hl 1 rfl) ?_
              refine r_get X hP 0 (wX0X3_g0_0 _ _ _ _ _) rfl inc_X0 1 (by decide) fl_X0_15 rfl dX0_layOut_78 ?_
              refine lv_aload_n hx hb dX0_layOut_81 rfl (lv_at hl 1 rfl) ?_
              refine r_get X hP 0 (wX0X3_g0_0 _ _ _ _ _) rfl inc_X0 0 (by decide) fl_X0_9 rfl dX0_layOut_82 ?_
              refine lv_iload_n hx hb dX0_layOut_85 rfl (lv_at hl 3 rfl) ?_
              obtain ⟨h15, hf⟩ := chk_in hf
              refine r_iast X hP hD hS 1 (wX0X3_g0_1 _ _ _ _ _) h15 (wX0X3_t0_1 _ _ _ _ _ _ _) dX0_layOut_86 (fun H locs hP hD hS => ?_)
              refine lv_aload_n hx hb dX0_layOut_87 rfl (lv_at hl 1 rfl) ?_
              refine r_get X hP 0 (wX0X3_g0_0 _ _ _ _ _) rfl inc_X0 2 (by decide) fl_X0_19 rfl dX0_layOut_88 ?_
              refine lv_aload_n hx hb dX0_layOut_91 rfl (lv_at hl 1 rfl) ?_
              refine r_get X hP 0 (wX0X3_g0_0 _ _ _ _ _) rfl inc_X0 0 (by decide) fl_X0_9 rfl dX0_layOut_92 ?_
              refine lv_iload_n hx hb dX0_layOut_95 rfl (lv_at hl 4 rfl) ?_
              obtain ⟨h16, hf⟩ := chk_in hf
              refine r_iast X hP hD hS 2 (wX0X3_g0_2 _ _ _ _ _) h16 (wX0X3_t0_2 _ _ _ _ _ _ _) dX0_layOut_96 (fun H locs hP hD hS => ?_)
              refine lv_aload_n hx hb dX0_layOut_97 rfl (lv_at hl 1 rfl) ?_
              refine lv_dup hx hb dX0_layOut_98 rfl ?_
              refine r_get X hP 0 (wX0X3_g0_0 _ _ _ _ _) rfl inc_X0 0 (by decide) fl_X0_9 rfl dX0_layOut_99 ?_
              refine lv_iconst (v := 1) hx hb dX0_layOut_102 (by decide) ?_
              refine lv_iadd hx hb dX0_layOut_103 ?_
              refine r_put X hP hD hS 0 (wX0X3_g0_0 _ _ _ _ _) rfl inc_X0 tyX0 tyX0_ok nmX0 0 (by decide) fl_X0_9 rfl (ty := .int) rfl rfl rfl (Nat.le_of_ble_eq_true rfl) (wX0X3_s0_0_0 _ _ _ _ _ _) dX0_layOut_104 (fun H locs hP hD hS => ?_)
              refine lv_iinc (v := (x5 + 1)) (lv' := [(3, .int (x5 + 1)), (4, .int ((if 0 ≤ ((τ 1 (x1 : Int32).toNatClampNeg) - (τ 1 (x5 : Int32).toNatClampNeg)) then ((τ 1 (x1 : Int32).toNatClampNeg) - (τ 1 (x5 : Int32).toNatClampNeg)) else 0 - ((τ 1 (x1 : Int32).toNatClampNeg) - (τ 1 (x5 : Int32).toNatClampNeg))) + (if 0 ≤ ((τ 2 (x1 : Int32).toNatClampNeg) - (τ 2 (x5 : Int32).toNatClampNeg)) then ((τ 2 (x1 : Int32).toNatClampNeg) - (τ 2 (x5 : Int32).toNatClampNeg)) else 0 - ((τ 2 (x1 : Int32).toNatClampNeg) - (τ 2 (x5 : Int32).toNatClampNeg))))), (0, .ref (a 0)), (1, .ref (b 0)), (2, .int x1)]) hx hb dX0_layOut_107 hl (k := 4) rfl rfl (by decide) rfl (fun ls hl => ?_)
              refine lv_goto (tgt := 19) hx hb dX0_layOut_110 (by decide) ?_
              exact ih7 (x5 + 1) (sg_st (sg_st (sg_st g6 1 ((g6 0 0) : Int32).toNatClampNeg x1) 2 (((sg_st g6 1 ((g6 0 0) : Int32).toNatClampNeg x1) 0 0) : Int32).toNatClampNeg x5) 0 0 (((sg_st (sg_st g6 1 ((g6 0 0) : Int32).toNatClampNeg x1) 2 (((sg_st g6 1 ((g6 0 0) : Int32).toNatClampNeg x1) 0 0) : Int32).toNatClampNeg x5) 0 0) + 1)) hf H locs ls hP hD hS (lv_sub hl [2, 3, 4, 0] rfl))
      exact L7 1000 (x1 + 1) g2 hf H locs ls hP hD hS (lv_sub hl [1, 2, 3, 0] rfl))
  exact L3 1000 0 (sg_st σ 0 0 0) hf H locs ls hP hD hS (lv_sub hl [1, 2, 0] rfl)
def rm_X0_wouldTear : Room := { frames := 2, cells := 0, slots := 0, locals := 47 }
theorem pv_X0_wouldTear : PkV RX0 yX0_wouldTear cX0_wouldTear 5 (some .boolean) 3 := ⟨im_X0_wouldTear, se_X0_wouldTear, ini_X0, cd_X0_wouldTear, by decide +kernel⟩
set_option maxHeartbeats 4000000 in
set_option maxRecDepth 100000 in
theorem c_X0_wouldTear (l : Launch) (E : Ev) (a : Nat → Nat) (σ : Sg) (b : Nat → Nat) (τ : Sg) (p1 : Int32) (p2 : Int32) {out : Int32} (hf : f_X0_wouldTear σ τ p1 p2 = some out) : MtI l yX0_wouldTear (wl yX0_wouldTear cX0_wouldTear 5 (some .boolean)) rm_X0_wouldTear E [.ref (a 0), .ref (b 0), .int p1, .int p2] (wX0X3 E a σ b τ) out (wX0X3 E a σ b τ) := by
  refine mt_of (QQ := (fun A => va_Qi (fun x (_ : Unit) => x = out) (fun _ t => QW E (wX0X3 E a σ b τ) t) A)) (by decide) (Nat.le_of_ble_eq_true rfl) (fun p e s m below meth c A ls X hr hP hD hS hl => ?_)
  have hx := X.1.1
  have hb := X.1.2.1
  have hl : lv_has ls 5 [(0, .ref (a 0)), (1, .ref (b 0)), (2, .int p1), (3, .int p2)] := hl
  obtain ⟨H, hHe⟩ : ∃ H : Heap, H = s.heap := ⟨_, rfl⟩
  obtain ⟨locs, hLe⟩ : ∃ locs : List Loc, locs = [] := ⟨_, rfl⟩
  have hP : va_P E.1 vwCl (wX0X3 E a σ b τ) H := by rw [hHe]; exact hP
  have hS : va_S A s.heap H locs := by rw [hHe, hLe]; exact hS
  rw [← hLe, show W p l e rm_X0_wouldTear s m ([.ref (a 0), .ref (b 0), .int p1, .int p2] : List Value).toArray below meth c s.heap locs 0 0 = W p l e rm_X0_wouldTear s m ([.ref (a 0), .ref (b 0), .int p1, .int p2] : List Value).toArray below meth c H locs 0 0 from by rw [hHe]]
  refine lv_iconst (v := 0) hx hb dX0_wouldTear_0 (by decide) ?_
  refine lv_istore (lv' := [(4, .int 0), (0, .ref (a 0)), (1, .ref (b 0)), (2, .int p1), (3, .int p2)]) hx hb dX0_wouldTear_1 hl (by decide) rfl (fun ls hl => ?_)
  have L2 := lc1_ind (o := out) (step := (s_X0_wouldTear_3 σ τ p1 p2)) (fun x1 => ∀ (H : Heap) (locs : List Loc) (ls : Array Slot), va_P E.1 vwCl (wX0X3 E a σ b τ) H → va_D A (wX0X3 E a σ b τ) → va_S A s.heap H locs → lv_has ls 5 [(0, .ref (a 0)), (1, .ref (b 0)), (2, .int p1), (3, .int p2), (4, .int x1)] → W p l e rm_X0_wouldTear s m ([.ref (a 0), .ref (b 0), .int p1, .int p2] : List Value).toArray below meth c H locs 0 0 (MQ below (va_Qi (fun x (_ : Unit) => x = out) (fun _ t => QW E (wX0X3 E a σ b τ) t) A) ([.ref (a 0), .ref (b 0), .int p1, .int p2] : List Value).toArray s 0 0 A) (F0 m 3 ls [])) (fun x1 k2 ih2 hf H locs ls hP hD hS hl => by
    refine lv_iload hx hb dX0_wouldTear_3 (lv_at hl 4 rfl) ?_
    refine lv_aload_n hx hb dX0_wouldTear_5 rfl (lv_at hl 0 rfl) ?_
    refine r_get X hP 0 (wX0X3_g0_0 _ _ _ _ _) rfl inc_X0 0 (by decide) fl_X0_9 rfl dX0_wouldTear_6 ?_
    refine lv_icmp_ge (tgt := 53) hx hb dX0_wouldTear_9 (by decide) (fun c3 => ?_) (fun c3 => ?_)
    · have hf := (if_pos c3).symm.trans hf
      refine lv_iconst (v := 0) hx hb dX0_wouldTear_53 (by decide) ?_
      have ho := Option.some.inj hf
      exact r_zret X hr hP hS rfl ho rfl dX0_wouldTear_54
    · have hf := (if_neg c3).symm.trans hf
      refine lv_aload_n hx hb dX0_wouldTear_12 rfl (lv_at hl 0 rfl) ?_
      refine r_get X hP 0 (wX0X3_g0_0 _ _ _ _ _) rfl inc_X0 3 (by decide) fl_X0_22 rfl dX0_wouldTear_13 ?_
      refine lv_iload hx hb dX0_wouldTear_16 (lv_at hl 4 rfl) ?_
      obtain ⟨h4, hf⟩ := chk_in hf
      refine r_iald X hP 3 (wX0X3_g0_3 _ _ _ _ _) h4 dX0_wouldTear_18 ?_
      refine lv_iload_n hx hb dX0_wouldTear_19 rfl (lv_at hl 3 rfl) ?_
      refine lv_icmp_lt (tgt := 47) hx hb dX0_wouldTear_20 (by decide) (fun c5 => ?_) (fun c5 => ?_)
      · have hf := (if_pos c5).symm.trans hf
        refine lv_iinc (v := (x1 + 1)) (lv' := [(4, .int (x1 + 1)), (0, .ref (a 0)), (1, .ref (b 0)), (2, .int p1), (3, .int p2)]) hx hb dX0_wouldTear_47 hl (k := 4) rfl rfl (by decide) rfl (fun ls hl => ?_)
        refine lv_goto (tgt := 3) hx hb dX0_wouldTear_50 (by decide) ?_
        exact ih2 (x1 + 1) hf H locs ls hP hD hS (lv_sub hl [1, 2, 3, 4, 0] rfl)
      · have hf := (if_neg c5).symm.trans hf
        refine lv_aload_n hx hb dX0_wouldTear_23 rfl (lv_at hl 1 rfl) ?_
        refine lv_aload_n hx hb dX0_wouldTear_24 rfl (lv_at hl 0 rfl) ?_
        refine r_get X hP 0 (wX0X3_g0_0 _ _ _ _ _) rfl inc_X0 1 (by decide) fl_X0_15 rfl dX0_wouldTear_25 ?_
        refine lv_iload hx hb dX0_wouldTear_28 (lv_at hl 4 rfl) ?_
        obtain ⟨h6, hf⟩ := chk_in hf
        refine r_iald X hP 1 (wX0X3_g0_1 _ _ _ _ _) h6 dX0_wouldTear_30 ?_
        refine lv_aload_n hx hb dX0_wouldTear_31 rfl (lv_at hl 0 rfl) ?_
        refine r_get X hP 0 (wX0X3_g0_0 _ _ _ _ _) rfl inc_X0 2 (by decide) fl_X0_19 rfl dX0_wouldTear_32 ?_
        refine lv_iload hx hb dX0_wouldTear_35 (lv_at hl 4 rfl) ?_
        obtain ⟨h7, hf⟩ := chk_in hf
        refine r_iald X hP 2 (wX0X3_g0_2 _ _ _ _ _) h7 dX0_wouldTear_37 ?_
        refine lv_iload_n hx hb dX0_wouldTear_38 rfl (lv_at hl 2 rfl) ?_
        obtain ⟨z8, hz8, hf⟩ := obd hf
        refine cV_roI X (As := [.int (σ 1 (x1 : Int32).toNatClampNeg), .int (σ 2 (x1 : Int32).toNatClampNeg), .int p1]) (rest := []) (c_X3_isParted l E b τ (σ 1 (x1 : Int32).toNatClampNeg) (σ 2 (x1 : Int32).toNatClampNeg) p1 hz8) pv_X3_isParted ml_X0_49 ⟨rfl, rfl⟩ ⟨(Nat.le_of_ble_eq_true rfl), (Nat.le_of_ble_eq_true rfl)⟩ hP hD hS (wX0X3_b_1_0_X3 _ _ _ _ _) rfl (wX3_g0_0 _ _ _) rfl rfl hl.1 rfl (Nat.le_of_ble_eq_true rfl) dX0_wouldTear_39 ⟨Nat.le_refl _, Nat.le_refl _⟩ (fun H locs hP hS => ?_)
        refine lv_if_eq (tgt := 47) hx hb dX0_wouldTear_42 (by decide) (fun c9 => ?_) (fun c9 => ?_)
        · have hf := (if_pos c9).symm.trans hf
          refine lv_iinc (v := (x1 + 1)) (lv' := [(4, .int (x1 + 1)), (0, .ref (a 0)), (1, .ref (b 0)), (2, .int p1), (3, .int p2)]) hx hb dX0_wouldTear_47 hl (k := 4) rfl rfl (by decide) rfl (fun ls hl => ?_)
          refine lv_goto (tgt := 3) hx hb dX0_wouldTear_50 (by decide) ?_
          exact ih2 (x1 + 1) hf H locs ls hP hD hS (lv_sub hl [1, 2, 3, 4, 0] rfl)
        · have hf := (if_neg c9).symm.trans hf
          refine lv_iconst (v := 1) hx hb dX0_wouldTear_45 (by decide) ?_
          have ho := Option.some.inj hf
          exact r_zret X hr hP hS rfl ho rfl dX0_wouldTear_46)
  exact L2 1000 0 hf H locs ls hP hD hS (lv_sub hl [1, 2, 3, 4, 0] rfl)
def rm_X3_touching : Room := { frames := 1, cells := 0, slots := 0, locals := 21 }
theorem pv_X3_touching : PkV RX3 yX3_touching cX3_touching 4 (some .int) 2 := ⟨im_X3_touching, se_X3_touching, ini_X3, cd_X3_touching, by decide +kernel⟩
set_option maxHeartbeats 4000000 in
set_option maxRecDepth 100000 in
theorem c_X3_touching (l : Launch) (E : Ev) (a : Nat → Nat) (σ : Sg) (p1 : Int32) (p2 : Int32) {out : Int32} (hf : f_X3_touching σ p1 p2 = some out) : MtI l yX3_touching (wl yX3_touching cX3_touching 4 (some .int)) rm_X3_touching E [.ref (a 0), .int p1, .int p2] (wX3 E a σ) out (wX3 E a σ) := by
  refine mt_of (QQ := (fun A => va_Qi (fun x (_ : Unit) => x = out) (fun _ t => QW E (wX3 E a σ) t) A)) (by decide) (Nat.le_of_ble_eq_true rfl) (fun p e s m below meth c A ls X hr hP hD hS hl => ?_)
  have hx := X.1.1
  have hb := X.1.2.1
  have hl : lv_has ls 4 [(0, .ref (a 0)), (1, .int p1), (2, .int p2)] := hl
  obtain ⟨H, hHe⟩ : ∃ H : Heap, H = s.heap := ⟨_, rfl⟩
  obtain ⟨locs, hLe⟩ : ∃ locs : List Loc, locs = [] := ⟨_, rfl⟩
  have hP : va_P E.1 vwCl (wX3 E a σ) H := by rw [hHe]; exact hP
  have hS : va_S A s.heap H locs := by rw [hHe, hLe]; exact hS
  rw [← hLe, show W p l e rm_X3_touching s m ([.ref (a 0), .int p1, .int p2] : List Value).toArray below meth c s.heap locs 0 0 = W p l e rm_X3_touching s m ([.ref (a 0), .int p1, .int p2] : List Value).toArray below meth c H locs 0 0 from by rw [hHe]]
  refine lv_aload_n hx hb dX3_touching_0 rfl (lv_at hl 0 rfl) ?_
  refine r_get X hP 0 (wX3_g0_0 _ _ _) rfl inc_X3 3 (by decide) fl_X3_21 rfl dX3_touching_1 ?_
  refine lv_iload_n hx hb dX3_touching_4 rfl (lv_at hl 1 rfl) ?_
  obtain ⟨h1, hf⟩ := chk_in hf
  refine r_iald X hP 1 (wX3_g0_1 _ _ _) h1 dX3_touching_5 ?_
  refine lv_aload_n hx hb dX3_touching_6 rfl (lv_at hl 0 rfl) ?_
  refine r_get X hP 0 (wX3_g0_0 _ _ _) rfl inc_X3 3 (by decide) fl_X3_21 rfl dX3_touching_7 ?_
  refine lv_iload_n hx hb dX3_touching_10 rfl (lv_at hl 2 rfl) ?_
  obtain ⟨h2, hf⟩ := chk_in hf
  refine r_iald X hP 1 (wX3_g0_1 _ _ _) h2 dX3_touching_11 ?_
  refine lv_icmp_ne (tgt := 50) hx hb dX3_touching_12 (by decide) (fun c3 => ?_) (fun c3 => ?_)
  · have hf := (if_neg c3).symm.trans hf
    refine lv_iconst (v := 0) hx hb dX3_touching_50 (by decide) ?_
    have ho := Option.some.inj hf
    exact r_iret X hr hP hS ho rfl dX3_touching_51
  · have hf := (if_pos c3).symm.trans hf
    refine lv_aload_n hx hb dX3_touching_15 rfl (lv_at hl 0 rfl) ?_
    refine r_get X hP 0 (wX3_g0_0 _ _ _) rfl inc_X3 4 (by decide) fl_X3_25 rfl dX3_touching_16 ?_
    refine lv_iload_n hx hb dX3_touching_19 rfl (lv_at hl 1 rfl) ?_
    obtain ⟨h4, hf⟩ := chk_in hf
    refine r_iald X hP 2 (wX3_g0_2 _ _ _) h4 dX3_touching_20 ?_
    refine lv_aload_n hx hb dX3_touching_21 rfl (lv_at hl 0 rfl) ?_
    refine r_get X hP 0 (wX3_g0_0 _ _ _) rfl inc_X3 4 (by decide) fl_X3_25 rfl dX3_touching_22 ?_
    refine lv_iload_n hx hb dX3_touching_25 rfl (lv_at hl 2 rfl) ?_
    obtain ⟨h5, hf⟩ := chk_in hf
    refine r_iald X hP 2 (wX3_g0_2 _ _ _) h5 dX3_touching_26 ?_
    refine lv_icmp_ne (tgt := 50) hx hb dX3_touching_27 (by decide) (fun c6 => ?_) (fun c6 => ?_)
    · have hf := (if_neg c6).symm.trans hf
      refine lv_iconst (v := 0) hx hb dX3_touching_50 (by decide) ?_
      have ho := Option.some.inj hf
      exact r_iret X hr hP hS ho rfl dX3_touching_51
    · have hf := (if_pos c6).symm.trans hf
      refine lv_aload_n hx hb dX3_touching_30 rfl (lv_at hl 0 rfl) ?_
      refine r_get X hP 0 (wX3_g0_0 _ _ _) rfl inc_X3 5 (by decide) fl_X3_28 rfl dX3_touching_31 ?_
      refine lv_iload_n hx hb dX3_touching_34 rfl (lv_at hl 1 rfl) ?_
      obtain ⟨h7, hf⟩ := chk_in hf
      refine r_iald X hP 3 (wX3_g0_3 _ _ _) h7 dX3_touching_35 ?_
      refine lv_aload_n hx hb dX3_touching_36 rfl (lv_at hl 0 rfl) ?_
      refine r_get X hP 0 (wX3_g0_0 _ _ _) rfl inc_X3 5 (by decide) fl_X3_28 rfl dX3_touching_37 ?_
      refine lv_iload_n hx hb dX3_touching_40 rfl (lv_at hl 2 rfl) ?_
      obtain ⟨h8, hf⟩ := chk_in hf
      refine r_iald X hP 3 (wX3_g0_3 _ _ _) h8 dX3_touching_41 ?_
      refine lv_isub hx hb dX3_touching_42 ?_
      refine r_abs X hl.1 ml_X3_82 sm_Math_abs ini_J9 cd_Math_abs (Nat.le_of_ble_eq_true rfl) (Nat.le_of_ble_eq_true rfl) (Nat.le_refl _) (Nat.le_refl _) dX3_touching_43 ?_
      refine lv_iconst (v := 1) hx hb dX3_touching_46 (by decide) ?_
      refine lv_icmp_eq (tgt := 52) hx hb dX3_touching_47 (by decide) (fun c9 => ?_) (fun c9 => ?_)
      · have hf := (if_pos c9).symm.trans hf
        refine lv_aload_n hx hb dX3_touching_52 rfl (lv_at hl 0 rfl) ?_
        refine r_get X hP 0 (wX3_g0_0 _ _ _) rfl inc_X3 6 (by decide) fl_X3_31 rfl dX3_touching_53 ?_
        refine lv_iload_n hx hb dX3_touching_56 rfl (lv_at hl 1 rfl) ?_
        obtain ⟨h10, hf⟩ := chk_in hf
        refine r_iald X hP 4 (wX3_g0_4 _ _ _) h10 dX3_touching_57 ?_
        refine lv_aload_n hx hb dX3_touching_58 rfl (lv_at hl 0 rfl) ?_
        refine r_get X hP 0 (wX3_g0_0 _ _ _) rfl inc_X3 6 (by decide) fl_X3_31 rfl dX3_touching_59 ?_
        refine lv_iload_n hx hb dX3_touching_62 rfl (lv_at hl 2 rfl) ?_
        obtain ⟨h11, hf⟩ := chk_in hf
        refine r_iald X hP 4 (wX3_g0_4 _ _ _) h11 dX3_touching_63 ?_
        refine lv_icmp_ne (tgt := 69) hx hb dX3_touching_64 (by decide) (fun c12 => ?_) (fun c12 => ?_)
        · have hf := (if_neg c12).symm.trans hf
          refine lv_aload_n hx hb dX3_touching_69 rfl (lv_at hl 0 rfl) ?_
          refine r_get X hP 0 (wX3_g0_0 _ _ _) rfl inc_X3 5 (by decide) fl_X3_28 rfl dX3_touching_70 ?_
          refine lv_iload_n hx hb dX3_touching_73 rfl (lv_at hl 1 rfl) ?_
          obtain ⟨h13, hf⟩ := chk_in hf
          refine r_iald X hP 3 (wX3_g0_3 _ _ _) h13 dX3_touching_74 ?_
          refine lv_aload_n hx hb dX3_touching_75 rfl (lv_at hl 0 rfl) ?_
          refine r_get X hP 0 (wX3_g0_0 _ _ _) rfl inc_X3 5 (by decide) fl_X3_28 rfl dX3_touching_76 ?_
          refine lv_iload_n hx hb dX3_touching_79 rfl (lv_at hl 2 rfl) ?_
          obtain ⟨h14, hf⟩ := chk_in hf
          refine r_iald X hP 3 (wX3_g0_3 _ _ _) h14 dX3_touching_80 ?_
          have J1 : ∀ (x15 : Int32), j_X3_touching_1 σ x15 = some out → ∀ (H : Heap) (locs : List Loc) (ls : Array Slot), va_P E.1 vwCl (wX3 E a σ) H → va_D A (wX3 E a σ) → va_S A s.heap H locs → lv_has ls 4 [(0, .ref (a 0))] → W p l e rm_X3_touching s m ([.ref (a 0), .int p1, .int p2] : List Value).toArray below meth c H locs 0 0 (MQ below (va_Qi (fun x (_ : Unit) => x = out) (fun _ t => QW E (wX3 E a σ) t) A) ([.ref (a 0), .int p1, .int p2] : List Value).toArray s 0 0 A) (F0 m 89 ls [.int x15]) := by
            intro x15 hf H locs ls hP hD hS hl
            refine lv_istore_n (lv' := [(3, .int x15), (0, .ref (a 0))]) hx hb dX3_touching_89 rfl hl (by decide) rfl (fun ls hl => ?_)
            refine lv_aload_n hx hb dX3_touching_90 rfl (lv_at hl 1 rfl) ?_
            refine r_get X hP 0 (wX3_g0_0 _ _ _) rfl inc_X3 6 (by decide) fl_X3_31 rfl dX3_touching_91 ?_
            refine lv_iload_n hx hb dX3_touching_94 rfl (lv_at hl 0 rfl) ?_
            obtain ⟨h16, hf⟩ := chk_in hf
            refine r_iald X hP 4 (wX3_g0_4 _ _ _) h16 dX3_touching_95 ?_
            refine lv_iconst (v := 1) hx hb dX3_touching_96 (by decide) ?_
            refine lv_icmp_ne (tgt := 104) hx hb dX3_touching_97 (by decide) (fun c17 => ?_) (fun c17 => ?_)
            · have hf := (if_neg c17).symm.trans hf
              refine lv_iconst (v := 2) hx hb dX3_touching_104 (by decide) ?_
              have ho := Option.some.inj hf
              exact r_iret X hr hP hS ho rfl dX3_touching_105
            · have hf := (if_pos c17).symm.trans hf
              refine lv_iconst (v := 1) hx hb dX3_touching_100 (by decide) ?_
              refine lv_goto (tgt := 105) hx hb dX3_touching_101 (by decide) ?_
              have ho := Option.some.inj hf
              exact r_iret X hr hP hS ho rfl dX3_touching_105
          refine lv_icmp_ge (tgt := 88) hx hb dX3_touching_81 (by decide) (fun c18 => ?_) (fun c18 => ?_)
          · have hf := (if_pos c18).symm.trans hf
            refine lv_iload_n hx hb dX3_touching_88 rfl (lv_at hl 2 rfl) ?_
            exact J1 p2 hf H locs ls hP hD hS (lv_sub hl [0] rfl)
          · have hf := (if_neg c18).symm.trans hf
            refine lv_iload_n hx hb dX3_touching_84 rfl (lv_at hl 1 rfl) ?_
            refine lv_goto (tgt := 89) hx hb dX3_touching_85 (by decide) ?_
            exact J1 p1 hf H locs ls hP hD hS (lv_sub hl [0] rfl)
        · have hf := (if_pos c12).symm.trans hf
          refine lv_iconst (v := 3) hx hb dX3_touching_67 (by decide) ?_
          have ho := Option.some.inj hf
          exact r_iret X hr hP hS ho rfl dX3_touching_68
      · have hf := (if_neg c9).symm.trans hf
        refine lv_iconst (v := 0) hx hb dX3_touching_50 (by decide) ?_
        have ho := Option.some.inj hf
        exact r_iret X hr hP hS ho rfl dX3_touching_51
def rm_X3_allTouch : Room := { frames := 2, cells := 0, slots := 0, locals := 44 }
theorem pv_X3_allTouch : PkV RX3 yX3_allTouch cX3_allTouch 3 (some .boolean) 1 := ⟨im_X3_allTouch, se_X3_allTouch, ini_X3, cd_X3_allTouch, by decide +kernel⟩
set_option maxHeartbeats 4000000 in
set_option maxRecDepth 100000 in
theorem c_X3_allTouch (l : Launch) (E : Ev) (a : Nat → Nat) (σ : Sg) (b : Nat → Nat) (τ : Sg) {out : Int32} (hf : f_X3_allTouch σ τ = some out) : MtI l yX3_allTouch (wl yX3_allTouch cX3_allTouch 3 (some .boolean)) rm_X3_allTouch E [.ref (a 0), .ref (b 0)] (wX3X4 E a σ b τ) out (wX3X4 E a σ b τ) := by
  refine mt_of (QQ := (fun A => va_Qi (fun x (_ : Unit) => x = out) (fun _ t => QW E (wX3X4 E a σ b τ) t) A)) (by decide) (Nat.le_of_ble_eq_true rfl) (fun p e s m below meth c A ls X hr hP hD hS hl => ?_)
  have hx := X.1.1
  have hb := X.1.2.1
  have hl : lv_has ls 3 [(0, .ref (a 0)), (1, .ref (b 0))] := hl
  obtain ⟨H, hHe⟩ : ∃ H : Heap, H = s.heap := ⟨_, rfl⟩
  obtain ⟨locs, hLe⟩ : ∃ locs : List Loc, locs = [] := ⟨_, rfl⟩
  have hP : va_P E.1 vwCl (wX3X4 E a σ b τ) H := by rw [hHe]; exact hP
  have hS : va_S A s.heap H locs := by rw [hHe, hLe]; exact hS
  rw [← hLe, show W p l e rm_X3_allTouch s m ([.ref (a 0), .ref (b 0)] : List Value).toArray below meth c s.heap locs 0 0 = W p l e rm_X3_allTouch s m ([.ref (a 0), .ref (b 0)] : List Value).toArray below meth c H locs 0 0 from by rw [hHe]]
  refine lv_iconst (v := 0) hx hb dX3_allTouch_0 (by decide) ?_
  refine lv_istore_n (lv' := [(2, .int 0), (0, .ref (a 0)), (1, .ref (b 0))]) hx hb dX3_allTouch_1 rfl hl (by decide) rfl (fun ls hl => ?_)
  have L2 := lc1_ind (o := out) (step := (s_X3_allTouch_2 σ τ)) (fun x1 => ∀ (H : Heap) (locs : List Loc) (ls : Array Slot), va_P E.1 vwCl (wX3X4 E a σ b τ) H → va_D A (wX3X4 E a σ b τ) → va_S A s.heap H locs → lv_has ls 3 [(0, .ref (a 0)), (1, .ref (b 0)), (2, .int x1)] → W p l e rm_X3_allTouch s m ([.ref (a 0), .ref (b 0)] : List Value).toArray below meth c H locs 0 0 (MQ below (va_Qi (fun x (_ : Unit) => x = out) (fun _ t => QW E (wX3X4 E a σ b τ) t) A) ([.ref (a 0), .ref (b 0)] : List Value).toArray s 0 0 A) (F0 m 2 ls [])) (fun x1 k2 ih2 hf H locs ls hP hD hS hl => by
    refine lv_iload_n hx hb dX3_allTouch_2 rfl (lv_at hl 2 rfl) ?_
    refine lv_aload_n hx hb dX3_allTouch_3 rfl (lv_at hl 1 rfl) ?_
    refine r_get X hP 6 (wX3X4_g1_0 _ _ _ _ _) rfl inc_X4 0 (by decide) fl_X3_88 rfl dX3_allTouch_4 ?_
    refine lv_icmp_ge (tgt := 37) hx hb dX3_allTouch_7 (by decide) (fun c3 => ?_) (fun c3 => ?_)
    · have hf := (if_pos c3).symm.trans hf
      refine lv_iconst (v := 1) hx hb dX3_allTouch_37 (by decide) ?_
      have ho := Option.some.inj hf
      exact r_zret X hr hP hS rfl ho rfl dX3_allTouch_38
    · have hf := (if_neg c3).symm.trans hf
      refine lv_aload_n hx hb dX3_allTouch_10 rfl (lv_at hl 0 rfl) ?_
      refine lv_aload_n hx hb dX3_allTouch_11 rfl (lv_at hl 1 rfl) ?_
      refine r_get X hP 6 (wX3X4_g1_0 _ _ _ _ _) rfl inc_X4 1 (by decide) fl_X3_93 rfl dX3_allTouch_12 ?_
      refine lv_iload_n hx hb dX3_allTouch_15 rfl (lv_at hl 2 rfl) ?_
      obtain ⟨h4, hf⟩ := chk_in hf
      refine r_iald X hP 7 (wX3X4_g1_1 _ _ _ _ _) h4 dX3_allTouch_16 ?_
      refine lv_aload_n hx hb dX3_allTouch_17 rfl (lv_at hl 1 rfl) ?_
      refine r_get X hP 6 (wX3X4_g1_0 _ _ _ _ _) rfl inc_X4 2 (by decide) fl_X3_96 rfl dX3_allTouch_18 ?_
      refine lv_iload_n hx hb dX3_allTouch_21 rfl (lv_at hl 2 rfl) ?_
      obtain ⟨h5, hf⟩ := chk_in hf
      refine r_iald X hP 8 (wX3X4_g1_2 _ _ _ _ _) h5 dX3_allTouch_22 ?_
      obtain ⟨z6, hz6, hf⟩ := obd hf
      refine cV_roI X (As := [.int (τ 1 (x1 : Int32).toNatClampNeg), .int (τ 2 (x1 : Int32).toNatClampNeg)]) (rest := []) (c_X3_touching l E a σ (τ 1 (x1 : Int32).toNatClampNeg) (τ 2 (x1 : Int32).toNatClampNeg) hz6) pv_X3_touching ml_X3_85 ⟨rfl, rfl⟩ ⟨(Nat.le_of_ble_eq_true rfl), (Nat.le_of_ble_eq_true rfl)⟩ hP hD hS (wX3X4_b_0_0_X3 _ _ _ _ _) rfl (wX3_g0_0 _ _ _) rfl rfl hl.1 rfl (Nat.le_of_ble_eq_true rfl) dX3_allTouch_23 ⟨Nat.le_refl _, Nat.le_refl _⟩ (fun H locs hP hS => ?_)
      refine lv_if_ne (tgt := 31) hx hb dX3_allTouch_26 (by decide) (fun c7 => ?_) (fun c7 => ?_)
      · have hf := (if_neg c7).symm.trans hf
        refine lv_iinc (v := (x1 + 1)) (lv' := [(2, .int (x1 + 1)), (0, .ref (a 0)), (1, .ref (b 0))]) hx hb dX3_allTouch_31 hl (k := 2) rfl rfl (by decide) rfl (fun ls hl => ?_)
        refine lv_goto (tgt := 2) hx hb dX3_allTouch_34 (by decide) ?_
        exact ih2 (x1 + 1) hf H locs ls hP hD hS (lv_sub hl [1, 2, 0] rfl)
      · have hf := (if_pos c7).symm.trans hf
        refine lv_iconst (v := 0) hx hb dX3_allTouch_29 (by decide) ?_
        have ho := Option.some.inj hf
        exact r_zret X hr hP hS rfl ho rfl dX3_allTouch_30)
  exact L2 1000 0 hf H locs ls hP hD hS (lv_sub hl [1, 2, 0] rfl)
def rm_X3_isPlace : Room := { frames := 0, cells := 0, slots := 0, locals := 0 }
theorem ps_X3_isPlace : PkS yX3_isPlace cX3_isPlace 2 (some .boolean) 2 := ⟨sm_X3_isPlace, ini_X3, cd_X3_isPlace, by decide +kernel⟩
set_option maxHeartbeats 4000000 in
set_option maxRecDepth 100000 in
theorem c_X3_isPlace (l : Launch) (E : Ev) (p1 : Int32) (p2 : Int32) {out : Int32} (hf : f_X3_isPlace p1 p2 = some out) : MtI l yX3_isPlace (wl yX3_isPlace cX3_isPlace 2 (some .boolean)) rm_X3_isPlace E [.int p1, .int p2] ([] : va_W) out ([] : va_W) := by
  refine mt_of (QQ := (fun A => va_Qi (fun x (_ : Unit) => x = out) (fun _ t => QW E ([] : va_W) t) A)) (by decide) (Nat.le_of_ble_eq_true rfl) (fun p e s m below meth c A ls X hr hP hD hS hl => ?_)
  have hx := X.1.1
  have hb := X.1.2.1
  have hl : lv_has ls 2 [(0, .int p1), (1, .int p2)] := hl
  obtain ⟨H, hHe⟩ : ∃ H : Heap, H = s.heap := ⟨_, rfl⟩
  obtain ⟨locs, hLe⟩ : ∃ locs : List Loc, locs = [] := ⟨_, rfl⟩
  have hP : va_P E.1 vwCl ([] : va_W) H := by rw [hHe]; exact hP
  have hS : va_S A s.heap H locs := by rw [hHe, hLe]; exact hS
  rw [← hLe, show W p l e rm_X3_isPlace s m ([.int p1, .int p2] : List Value).toArray below meth c s.heap locs 0 0 = W p l e rm_X3_isPlace s m ([.int p1, .int p2] : List Value).toArray below meth c H locs 0 0 from by rw [hHe]]
  refine lv_iload_n hx hb dX3_isPlace_0 rfl (lv_at hl 0 rfl) ?_
  refine lv_if_lt (tgt := 22) hx hb dX3_isPlace_1 (by decide) (fun c1 => ?_) (fun c1 => ?_)
  · have hf := (if_pos c1).symm.trans hf
    refine lv_iconst (v := 0) hx hb dX3_isPlace_22 (by decide) ?_
    have ho := Option.some.inj hf
    exact r_zret X hr hP hS rfl ho rfl dX3_isPlace_23
  · have hf := (if_neg c1).symm.trans hf
    refine lv_iload_n hx hb dX3_isPlace_4 rfl (lv_at hl 0 rfl) ?_
    refine lv_iconst (v := 4) hx hb dX3_isPlace_5 (by decide) ?_
    refine lv_icmp_ge (tgt := 22) hx hb dX3_isPlace_6 (by decide) (fun c2 => ?_) (fun c2 => ?_)
    · have hf := (if_pos c2).symm.trans hf
      refine lv_iconst (v := 0) hx hb dX3_isPlace_22 (by decide) ?_
      have ho := Option.some.inj hf
      exact r_zret X hr hP hS rfl ho rfl dX3_isPlace_23
    · have hf := (if_neg c2).symm.trans hf
      refine lv_iload_n hx hb dX3_isPlace_9 rfl (lv_at hl 1 rfl) ?_
      refine lv_if_lt (tgt := 22) hx hb dX3_isPlace_10 (by decide) (fun c3 => ?_) (fun c3 => ?_)
      · have hf := (if_pos c3).symm.trans hf
        refine lv_iconst (v := 0) hx hb dX3_isPlace_22 (by decide) ?_
        have ho := Option.some.inj hf
        exact r_zret X hr hP hS rfl ho rfl dX3_isPlace_23
      · have hf := (if_neg c3).symm.trans hf
        refine lv_iload_n hx hb dX3_isPlace_13 rfl (lv_at hl 1 rfl) ?_
        refine lv_iconst (v := 4) hx hb dX3_isPlace_14 (by decide) ?_
        refine lv_icmp_ge (tgt := 22) hx hb dX3_isPlace_15 (by decide) (fun c4 => ?_) (fun c4 => ?_)
        · have hf := (if_pos c4).symm.trans hf
          refine lv_iconst (v := 0) hx hb dX3_isPlace_22 (by decide) ?_
          have ho := Option.some.inj hf
          exact r_zret X hr hP hS rfl ho rfl dX3_isPlace_23
        · have hf := (if_neg c4).symm.trans hf
          refine lv_iconst (v := 1) hx hb dX3_isPlace_18 (by decide) ?_
          refine lv_goto (tgt := 23) hx hb dX3_isPlace_19 (by decide) ?_
          have ho := Option.some.inj hf
          exact r_zret X hr hP hS rfl ho rfl dX3_isPlace_23
def rm_X3_countHeights : Room := { frames := 1, cells := 0, slots := 0, locals := 21 }
theorem pv_X3_countHeights : PkV RX3 yX3_countHeights cX3_countHeights 2 none 0 := ⟨im_X3_countHeights, se_X3_countHeights, ini_X3, cd_X3_countHeights, by decide +kernel⟩
set_option maxHeartbeats 4000000 in
set_option maxRecDepth 100000 in
theorem c_X3_countHeights (l : Launch) (E : Ev) (a : Nat → Nat) (σ : Sg) {out : Sg} (hf : f_X3_countHeights σ = some out) : MtV l yX3_countHeights (wl yX3_countHeights cX3_countHeights 2 none) rm_X3_countHeights E [.ref (a 0)] (wX3 E a σ) (wX3 E a out) := by
  refine mt_of (QQ := (fun A => va_Qv (fun _ : Unit => True) (fun _ t => QW E (wX3 E a out) t) A)) (by decide) (Nat.le_of_ble_eq_true rfl) (fun p e s m below meth c A ls X hr hP hD hS hl => ?_)
  have hx := X.1.1
  have hb := X.1.2.1
  have hl : lv_has ls 2 [(0, .ref (a 0))] := hl
  obtain ⟨H, hHe⟩ : ∃ H : Heap, H = s.heap := ⟨_, rfl⟩
  obtain ⟨locs, hLe⟩ : ∃ locs : List Loc, locs = [] := ⟨_, rfl⟩
  have hP : va_P E.1 vwCl (wX3 E a σ) H := by rw [hHe]; exact hP
  have hS : va_S A s.heap H locs := by rw [hHe, hLe]; exact hS
  rw [← hLe, show W p l e rm_X3_countHeights s m ([.ref (a 0)] : List Value).toArray below meth c s.heap locs 0 0 = W p l e rm_X3_countHeights s m ([.ref (a 0)] : List Value).toArray below meth c H locs 0 0 from by rw [hHe]]
  refine lv_iconst (v := 0) hx hb dX3_countHeights_0 (by decide) ?_
  refine lv_istore_n (lv' := [(1, .int 0), (0, .ref (a 0))]) hx hb dX3_countHeights_1 rfl hl (by decide) rfl (fun ls hl => ?_)
  have L3 := lc2_ind (o := out) (step := (s_X3_countHeights_2)) (fun x1 g2 => ∀ (H : Heap) (locs : List Loc) (ls : Array Slot), va_P E.1 vwCl (wX3 E a g2) H → va_D A (wX3 E a g2) → va_S A s.heap H locs → lv_has ls 2 [(0, .ref (a 0)), (1, .int x1)] → W p l e rm_X3_countHeights s m ([.ref (a 0)] : List Value).toArray below meth c H locs 0 0 (MQ below (va_Qv (fun _ : Unit => True) (fun _ t => QW E (wX3 E a out) t) A) ([.ref (a 0)] : List Value).toArray s 0 0 A) (F0 m 2 ls [])) (fun x1 g2 k3 ih3 hf H locs ls hP hD hS hl => by
    refine lv_iload_n hx hb dX3_countHeights_2 rfl (lv_at hl 1 rfl) ?_
    refine lv_bipush (v := 16) hx hb dX3_countHeights_3 (by decide) ?_
    refine lv_icmp_ge (tgt := 21) hx hb dX3_countHeights_5 (by decide) (fun c4 => ?_) (fun c4 => ?_)
    · have hf := (if_pos c4).symm.trans hf
      refine lv_iconst (v := 0) hx hb dX3_countHeights_21 (by decide) ?_
      refine lv_istore_n (lv' := [(1, .int 0), (0, .ref (a 0))]) hx hb dX3_countHeights_22 rfl hl (by decide) rfl (fun ls hl => ?_)
      have L7 := lc2_ind (o := out) (step := (s_X3_countHeights_23)) (fun x5 g6 => ∀ (H : Heap) (locs : List Loc) (ls : Array Slot), va_P E.1 vwCl (wX3 E a g6) H → va_D A (wX3 E a g6) → va_S A s.heap H locs → lv_has ls 2 [(0, .ref (a 0)), (1, .int x5)] → W p l e rm_X3_countHeights s m ([.ref (a 0)] : List Value).toArray below meth c H locs 0 0 (MQ below (va_Qv (fun _ : Unit => True) (fun _ t => QW E (wX3 E a out) t) A) ([.ref (a 0)] : List Value).toArray s 0 0 A) (F0 m 23 ls [])) (fun x5 g6 k7 ih7 hf H locs ls hP hD hS hl => by
        refine lv_iload_n hx hb dX3_countHeights_23 rfl (lv_at hl 1 rfl) ?_
        refine lv_aload_n hx hb dX3_countHeights_24 rfl (lv_at hl 0 rfl) ?_
        refine r_get X hP 0 (wX3_g0_0 _ _ _) rfl inc_X3 0 (by decide) fl_X3_9 rfl dX3_countHeights_25 ?_
        refine lv_icmp_ge (tgt := 79) hx hb dX3_countHeights_28 (by decide) (fun c8 => ?_) (fun c8 => ?_)
        · have hf := (if_pos c8).symm.trans hf
          have ho := Option.some.inj hf
          have hw := congrArg (fun o : Sg => (wX3 E a o)) ho
          exact r_vret X hr hP hS hw dX3_countHeights_79
        · have hf := (if_neg c8).symm.trans hf
          refine lv_aload_n hx hb dX3_countHeights_31 rfl (lv_at hl 0 rfl) ?_
          refine r_get X hP 0 (wX3_g0_0 _ _ _) rfl inc_X3 3 (by decide) fl_X3_21 rfl dX3_countHeights_32 ?_
          refine lv_iload_n hx hb dX3_countHeights_35 rfl (lv_at hl 1 rfl) ?_
          obtain ⟨h9, hf⟩ := chk_in hf
          refine r_iald X hP 1 (wX3_g0_1 _ _ _) h9 dX3_countHeights_36 ?_
          refine lv_aload_n hx hb dX3_countHeights_37 rfl (lv_at hl 0 rfl) ?_
          refine r_get X hP 0 (wX3_g0_0 _ _ _) rfl inc_X3 4 (by decide) fl_X3_25 rfl dX3_countHeights_38 ?_
          refine lv_iload_n hx hb dX3_countHeights_41 rfl (lv_at hl 1 rfl) ?_
          obtain ⟨h10, hf⟩ := chk_in hf
          refine r_iald X hP 2 (wX3_g0_2 _ _ _) h10 dX3_countHeights_42 ?_
          obtain ⟨z11, hz11, hf⟩ := obd hf
          refine cS_roI X (As := [.int (g6 1 (x5 : Int32).toNatClampNeg), .int (g6 2 (x5 : Int32).toNatClampNeg)]) (rest := []) (c_X3_isPlace l E (g6 1 (x5 : Int32).toNatClampNeg) (g6 2 (x5 : Int32).toNatClampNeg) hz11) ps_X3_isPlace ml_X3_78 ⟨rfl, rfl⟩ ⟨(Nat.le_of_ble_eq_true rfl), (Nat.le_of_ble_eq_true rfl)⟩ hP hD hS (is := []) (wc := []) rfl rfl rfl hl.1 rfl (Nat.le_of_ble_eq_true rfl) dX3_countHeights_43 ⟨Nat.le_refl _, Nat.le_refl _⟩ (fun H locs hP hS => ?_)
          refine lv_if_eq (tgt := 73) hx hb dX3_countHeights_46 (by decide) (fun c12 => ?_) (fun c12 => ?_)
          · have hf := (if_pos c12).symm.trans hf
            refine lv_iinc (v := (x5 + 1)) (lv' := [(1, .int (x5 + 1)), (0, .ref (a 0))]) hx hb dX3_countHeights_73 hl (k := 1) rfl rfl (by decide) rfl (fun ls hl => ?_)
            refine lv_goto (tgt := 23) hx hb dX3_countHeights_76 (by decide) ?_
            exact ih7 (x5 + 1) g6 hf H locs ls hP hD hS (lv_sub hl [1, 0] rfl)
          · have hf := (if_neg c12).symm.trans hf
            refine lv_aload_n hx hb dX3_countHeights_49 rfl (lv_at hl 0 rfl) ?_
            refine r_get X hP 0 (wX3_g0_0 _ _ _) rfl inc_X3 7 (by decide) fl_X3_34 rfl dX3_countHeights_50 ?_
            refine lv_iconst (v := 4) hx hb dX3_countHeights_53 (by decide) ?_
            refine lv_aload_n hx hb dX3_countHeights_54 rfl (lv_at hl 0 rfl) ?_
            refine r_get X hP 0 (wX3_g0_0 _ _ _) rfl inc_X3 4 (by decide) fl_X3_25 rfl dX3_countHeights_55 ?_
            refine lv_iload_n hx hb dX3_countHeights_58 rfl (lv_at hl 1 rfl) ?_
            obtain ⟨h13, hf⟩ := chk_in hf
            refine r_iald X hP 2 (wX3_g0_2 _ _ _) h13 dX3_countHeights_59 ?_
            refine lv_imul hx hb dX3_countHeights_60 ?_
            refine lv_aload_n hx hb dX3_countHeights_61 rfl (lv_at hl 0 rfl) ?_
            refine r_get X hP 0 (wX3_g0_0 _ _ _) rfl inc_X3 3 (by decide) fl_X3_21 rfl dX3_countHeights_62 ?_
            refine lv_iload_n hx hb dX3_countHeights_65 rfl (lv_at hl 1 rfl) ?_
            obtain ⟨h14, hf⟩ := chk_in hf
            refine r_iald X hP 1 (wX3_g0_1 _ _ _) h14 dX3_countHeights_66 ?_
            refine lv_iadd hx hb dX3_countHeights_67 ?_
            refine lv_dup2_11 hx hb dX3_countHeights_68 rfl rfl ?_
            obtain ⟨h15, hf⟩ := chk_in hf
            refine r_iald X hP 5 (wX3_g0_5 _ _ _) h15 dX3_countHeights_69 ?_
            refine lv_iconst (v := 1) hx hb dX3_countHeights_70 (by decide) ?_
            refine lv_iadd hx hb dX3_countHeights_71 ?_
            obtain ⟨h16, hf⟩ := chk_in hf
            refine r_iast X hP hD hS 5 (wX3_g0_5 _ _ _) h16 (wX3_t0_5 _ _ _ _ _) dX3_countHeights_72 (fun H locs hP hD hS => ?_)
            refine lv_iinc (v := (x5 + 1)) (lv' := [(1, .int (x5 + 1)), (0, .ref (a 0))]) hx hb dX3_countHeights_73 hl (k := 1) rfl rfl (by decide) rfl (fun ls hl => ?_)
            refine lv_goto (tgt := 23) hx hb dX3_countHeights_76 (by decide) ?_
            exact ih7 (x5 + 1) (sg_st g6 5 (((4 * (g6 2 (x5 : Int32).toNatClampNeg)) + (g6 1 (x5 : Int32).toNatClampNeg)) : Int32).toNatClampNeg ((g6 5 (((4 * (g6 2 (x5 : Int32).toNatClampNeg)) + (g6 1 (x5 : Int32).toNatClampNeg)) : Int32).toNatClampNeg) + 1)) hf H locs ls hP hD hS (lv_sub hl [1, 0] rfl))
      exact L7 1000 0 g2 hf H locs ls hP hD hS (lv_sub hl [1, 0] rfl)
    · have hf := (if_neg c4).symm.trans hf
      refine lv_aload_n hx hb dX3_countHeights_8 rfl (lv_at hl 0 rfl) ?_
      refine r_get X hP 0 (wX3_g0_0 _ _ _) rfl inc_X3 7 (by decide) fl_X3_34 rfl dX3_countHeights_9 ?_
      refine lv_iload_n hx hb dX3_countHeights_12 rfl (lv_at hl 1 rfl) ?_
      refine lv_iconst (v := 0) hx hb dX3_countHeights_13 (by decide) ?_
      obtain ⟨h17, hf⟩ := chk_in hf
      refine r_iast X hP hD hS 5 (wX3_g0_5 _ _ _) h17 (wX3_t0_5 _ _ _ _ _) dX3_countHeights_14 (fun H locs hP hD hS => ?_)
      refine lv_iinc (v := (x1 + 1)) (lv' := [(1, .int (x1 + 1)), (0, .ref (a 0))]) hx hb dX3_countHeights_15 hl (k := 1) rfl rfl (by decide) rfl (fun ls hl => ?_)
      refine lv_goto (tgt := 2) hx hb dX3_countHeights_18 (by decide) ?_
      exact ih3 (x1 + 1) (sg_st g2 5 (x1 : Int32).toNatClampNeg 0) hf H locs ls hP hD hS (lv_sub hl [1, 0] rfl))
  exact L3 1000 0 σ hf H locs ls hP hD hS (lv_sub hl [1, 0] rfl)
def rm_X3_heightAt : Room := { frames := 1, cells := 0, slots := 0, locals := 21 }
theorem pv_X3_heightAt : PkV RX3 yX3_heightAt cX3_heightAt 3 (some .int) 2 := ⟨im_X3_heightAt, se_X3_heightAt, ini_X3, cd_X3_heightAt, by decide +kernel⟩
set_option maxHeartbeats 4000000 in
set_option maxRecDepth 100000 in
theorem c_X3_heightAt (l : Launch) (E : Ev) (a : Nat → Nat) (σ : Sg) (p1 : Int32) (p2 : Int32) {out : Int32} (hf : f_X3_heightAt σ p1 p2 = some out) : MtI l yX3_heightAt (wl yX3_heightAt cX3_heightAt 3 (some .int)) rm_X3_heightAt E [.ref (a 0), .int p1, .int p2] (wX3 E a σ) out (wX3 E a σ) := by
  refine mt_of (QQ := (fun A => va_Qi (fun x (_ : Unit) => x = out) (fun _ t => QW E (wX3 E a σ) t) A)) (by decide) (Nat.le_of_ble_eq_true rfl) (fun p e s m below meth c A ls X hr hP hD hS hl => ?_)
  have hx := X.1.1
  have hb := X.1.2.1
  have hl : lv_has ls 3 [(0, .ref (a 0)), (1, .int p1), (2, .int p2)] := hl
  obtain ⟨H, hHe⟩ : ∃ H : Heap, H = s.heap := ⟨_, rfl⟩
  obtain ⟨locs, hLe⟩ : ∃ locs : List Loc, locs = [] := ⟨_, rfl⟩
  have hP : va_P E.1 vwCl (wX3 E a σ) H := by rw [hHe]; exact hP
  have hS : va_S A s.heap H locs := by rw [hHe, hLe]; exact hS
  rw [← hLe, show W p l e rm_X3_heightAt s m ([.ref (a 0), .int p1, .int p2] : List Value).toArray below meth c s.heap locs 0 0 = W p l e rm_X3_heightAt s m ([.ref (a 0), .int p1, .int p2] : List Value).toArray below meth c H locs 0 0 from by rw [hHe]]
  refine lv_iload_n hx hb dX3_heightAt_0 rfl (lv_at hl 1 rfl) ?_
  refine lv_iload_n hx hb dX3_heightAt_1 rfl (lv_at hl 2 rfl) ?_
  obtain ⟨z1, hz1, hf⟩ := obd hf
  refine cS_roI X (As := [.int p1, .int p2]) (rest := []) (c_X3_isPlace l E p1 p2 hz1) ps_X3_isPlace ml_X3_78 ⟨rfl, rfl⟩ ⟨(Nat.le_of_ble_eq_true rfl), (Nat.le_of_ble_eq_true rfl)⟩ hP hD hS (is := []) (wc := []) rfl rfl rfl hl.1 rfl (Nat.le_of_ble_eq_true rfl) dX3_heightAt_2 ⟨Nat.le_refl _, Nat.le_refl _⟩ (fun H locs hP hS => ?_)
  refine lv_if_eq (tgt := 21) hx hb dX3_heightAt_5 (by decide) (fun c2 => ?_) (fun c2 => ?_)
  · have hf := (if_pos c2).symm.trans hf
    refine lv_iconst (v := 0) hx hb dX3_heightAt_21 (by decide) ?_
    have ho := Option.some.inj hf
    exact r_iret X hr hP hS ho rfl dX3_heightAt_22
  · have hf := (if_neg c2).symm.trans hf
    refine lv_aload_n hx hb dX3_heightAt_8 rfl (lv_at hl 0 rfl) ?_
    refine r_get X hP 0 (wX3_g0_0 _ _ _) rfl inc_X3 7 (by decide) fl_X3_34 rfl dX3_heightAt_9 ?_
    refine lv_iconst (v := 4) hx hb dX3_heightAt_12 (by decide) ?_
    refine lv_iload_n hx hb dX3_heightAt_13 rfl (lv_at hl 2 rfl) ?_
    refine lv_imul hx hb dX3_heightAt_14 ?_
    refine lv_iload_n hx hb dX3_heightAt_15 rfl (lv_at hl 1 rfl) ?_
    refine lv_iadd hx hb dX3_heightAt_16 ?_
    obtain ⟨h3, hf⟩ := chk_in hf
    refine r_iald X hP 5 (wX3_g0_5 _ _ _) h3 dX3_heightAt_17 ?_
    refine lv_goto (tgt := 22) hx hb dX3_heightAt_18 (by decide) ?_
    have ho := Option.some.inj hf
    exact r_iret X hr hP hS ho rfl dX3_heightAt_22
def rm_X3_overOf : Room := { frames := 0, cells := 0, slots := 0, locals := 0 }
theorem ps_X3_overOf : PkS yX3_overOf cX3_overOf 1 (some .int) 1 := ⟨sm_X3_overOf, ini_X3, cd_X3_overOf, by decide +kernel⟩
set_option maxHeartbeats 4000000 in
set_option maxRecDepth 100000 in
theorem c_X3_overOf (l : Launch) (E : Ev) (p1 : Int32) {out : Int32} (hf : f_X3_overOf p1 = some out) : MtI l yX3_overOf (wl yX3_overOf cX3_overOf 1 (some .int)) rm_X3_overOf E [.int p1] ([] : va_W) out ([] : va_W) := by
  refine mt_of (QQ := (fun A => va_Qi (fun x (_ : Unit) => x = out) (fun _ t => QW E ([] : va_W) t) A)) (by decide) (Nat.le_of_ble_eq_true rfl) (fun p e s m below meth c A ls X hr hP hD hS hl => ?_)
  have hx := X.1.1
  have hb := X.1.2.1
  have hl : lv_has ls 1 [(0, .int p1)] := hl
  obtain ⟨H, hHe⟩ : ∃ H : Heap, H = s.heap := ⟨_, rfl⟩
  obtain ⟨locs, hLe⟩ : ∃ locs : List Loc, locs = [] := ⟨_, rfl⟩
  have hP : va_P E.1 vwCl ([] : va_W) H := by rw [hHe]; exact hP
  have hS : va_S A s.heap H locs := by rw [hHe, hLe]; exact hS
  rw [← hLe, show W p l e rm_X3_overOf s m ([.int p1] : List Value).toArray below meth c s.heap locs 0 0 = W p l e rm_X3_overOf s m ([.int p1] : List Value).toArray below meth c H locs 0 0 from by rw [hHe]]
  refine lv_iload_n hx hb dX3_overOf_0 rfl (lv_at hl 0 rfl) ?_
  refine lv_iconst (v := 2) hx hb dX3_overOf_1 (by decide) ?_
  refine lv_ishr hx hb dX3_overOf_2 ?_
  refine lv_iconst (v := 1) hx hb dX3_overOf_3 (by decide) ?_
  refine lv_iand hx hb dX3_overOf_4 ?_
  have ho := Option.some.inj hf
  exact r_iret X hr hP hS ho rfl dX3_overOf_5
def rm_X3_partOf : Room := { frames := 0, cells := 0, slots := 0, locals := 0 }
theorem ps_X3_partOf : PkS yX3_partOf cX3_partOf 1 (some .int) 1 := ⟨sm_X3_partOf, ini_X3, cd_X3_partOf, by decide +kernel⟩
set_option maxHeartbeats 4000000 in
set_option maxRecDepth 100000 in
theorem c_X3_partOf (l : Launch) (E : Ev) (p1 : Int32) {out : Int32} (hf : f_X3_partOf p1 = some out) : MtI l yX3_partOf (wl yX3_partOf cX3_partOf 1 (some .int)) rm_X3_partOf E [.int p1] ([] : va_W) out ([] : va_W) := by
  refine mt_of (QQ := (fun A => va_Qi (fun x (_ : Unit) => x = out) (fun _ t => QW E ([] : va_W) t) A)) (by decide) (Nat.le_of_ble_eq_true rfl) (fun p e s m below meth c A ls X hr hP hD hS hl => ?_)
  have hx := X.1.1
  have hb := X.1.2.1
  have hl : lv_has ls 1 [(0, .int p1)] := hl
  obtain ⟨H, hHe⟩ : ∃ H : Heap, H = s.heap := ⟨_, rfl⟩
  obtain ⟨locs, hLe⟩ : ∃ locs : List Loc, locs = [] := ⟨_, rfl⟩
  have hP : va_P E.1 vwCl ([] : va_W) H := by rw [hHe]; exact hP
  have hS : va_S A s.heap H locs := by rw [hHe, hLe]; exact hS
  rw [← hLe, show W p l e rm_X3_partOf s m ([.int p1] : List Value).toArray below meth c s.heap locs 0 0 = W p l e rm_X3_partOf s m ([.int p1] : List Value).toArray below meth c H locs 0 0 from by rw [hHe]]
  refine lv_iload_n hx hb dX3_partOf_0 rfl (lv_at hl 0 rfl) ?_
  refine lv_iconst (v := 1) hx hb dX3_partOf_1 (by decide) ?_
  refine lv_ishr hx hb dX3_partOf_2 ?_
  refine lv_iconst (v := 1) hx hb dX3_partOf_3 (by decide) ?_
  refine lv_iand hx hb dX3_partOf_4 ?_
  have ho := Option.some.inj hf
  exact r_iret X hr hP hS ho rfl dX3_partOf_5
def rm_X3_shiftOf : Room := { frames := 1, cells := 0, slots := 0, locals := 21 }
theorem pv_X3_shiftOf : PkV RX3 yX3_shiftOf cX3_shiftOf 4 (some .int) 1 := ⟨im_X3_shiftOf, se_X3_shiftOf, ini_X3, cd_X3_shiftOf, by decide +kernel⟩
set_option maxHeartbeats 4000000 in
set_option maxRecDepth 100000 in
theorem c_X3_shiftOf (l : Launch) (E : Ev) (a : Nat → Nat) (σ : Sg) (p1 : Int32) {out : Int32} (hf : f_X3_shiftOf σ p1 = some out) : MtI l yX3_shiftOf (wl yX3_shiftOf cX3_shiftOf 4 (some .int)) rm_X3_shiftOf E [.ref (a 0), .int p1] (wX3 E a σ) out (wX3 E a σ) := by
  refine mt_of (QQ := (fun A => va_Qi (fun x (_ : Unit) => x = out) (fun _ t => QW E (wX3 E a σ) t) A)) (by decide) (Nat.le_of_ble_eq_true rfl) (fun p e s m below meth c A ls X hr hP hD hS hl => ?_)
  have hx := X.1.1
  have hb := X.1.2.1
  have hl : lv_has ls 4 [(0, .ref (a 0)), (1, .int p1)] := hl
  obtain ⟨H, hHe⟩ : ∃ H : Heap, H = s.heap := ⟨_, rfl⟩
  obtain ⟨locs, hLe⟩ : ∃ locs : List Loc, locs = [] := ⟨_, rfl⟩
  have hP : va_P E.1 vwCl (wX3 E a σ) H := by rw [hHe]; exact hP
  have hS : va_S A s.heap H locs := by rw [hHe, hLe]; exact hS
  rw [← hLe, show W p l e rm_X3_shiftOf s m ([.ref (a 0), .int p1] : List Value).toArray below meth c s.heap locs 0 0 = W p l e rm_X3_shiftOf s m ([.ref (a 0), .int p1] : List Value).toArray below meth c H locs 0 0 from by rw [hHe]]
  refine lv_iload_n hx hb dX3_shiftOf_0 rfl (lv_at hl 1 rfl) ?_
  obtain ⟨z1, hz1, hf⟩ := obd hf
  refine cS_roI X (As := [.int p1]) (rest := []) (c_X3_lineOf l E p1 hz1) ps_X3_lineOf ml_X3_53 ⟨rfl, rfl⟩ ⟨(Nat.le_of_ble_eq_true rfl), (Nat.le_of_ble_eq_true rfl)⟩ hP hD hS (is := []) (wc := []) rfl rfl rfl hl.1 rfl (Nat.le_of_ble_eq_true rfl) dX3_shiftOf_1 ⟨Nat.le_refl _, Nat.le_refl _⟩ (fun H locs hP hS => ?_)
  refine lv_istore_n (lv' := [(2, .int z1), (0, .ref (a 0)), (1, .int p1)]) hx hb dX3_shiftOf_4 rfl hl (by decide) rfl (fun ls hl => ?_)
  refine lv_iload_n hx hb dX3_shiftOf_5 rfl (lv_at hl 2 rfl) ?_
  obtain ⟨z2, hz2, hf⟩ := obd hf
  refine cS_roI X (As := [.int p1]) (rest := []) (c_X3_axisOf l E p1 hz2) ps_X3_axisOf ml_X3_49 ⟨rfl, rfl⟩ ⟨(Nat.le_of_ble_eq_true rfl), (Nat.le_of_ble_eq_true rfl)⟩ hP hD hS (is := []) (wc := []) rfl rfl rfl hl.1 rfl (Nat.le_of_ble_eq_true rfl) dX3_shiftOf_6 ⟨Nat.le_refl _, Nat.le_refl _⟩ (fun H locs hP hS => ?_)
  have J1 : ∀ (x3 : Int32), j_X3_shiftOf_1 p1 z1 x3 = some out → ∀ (H : Heap) (locs : List Loc) (ls : Array Slot), va_P E.1 vwCl (wX3 E a σ) H → va_D A (wX3 E a σ) → va_S A s.heap H locs → lv_has ls 4 [(1, .int p1), (2, .int z1)] → W p l e rm_X3_shiftOf s m ([.ref (a 0), .int p1] : List Value).toArray below meth c H locs 0 0 (MQ below (va_Qi (fun x (_ : Unit) => x = out) (fun _ t => QW E (wX3 E a σ) t) A) ([.ref (a 0), .int p1] : List Value).toArray s 0 0 A) (F0 m 23 ls [.int x3]) := by
    intro x3 hf H locs ls hP hD hS hl
    refine lv_istore_n (lv' := [(3, .int x3), (1, .int p1), (2, .int z1)]) hx hb dX3_shiftOf_23 rfl hl (by decide) rfl (fun ls hl => ?_)
    refine lv_iload_n hx hb dX3_shiftOf_24 rfl (lv_at hl 1 rfl) ?_
    obtain ⟨z4, hz4, hf⟩ := obd hf
    refine cS_roI X (As := [.int p1]) (rest := []) (c_X3_partOf l E p1 hz4) ps_X3_partOf ml_X3_68 ⟨rfl, rfl⟩ ⟨(Nat.le_of_ble_eq_true rfl), (Nat.le_of_ble_eq_true rfl)⟩ hP hD hS (is := []) (wc := []) rfl rfl rfl hl.1 rfl (Nat.le_of_ble_eq_true rfl) dX3_shiftOf_25 ⟨Nat.le_refl _, Nat.le_refl _⟩ (fun H locs hP hS => ?_)
    refine lv_if_ne (tgt := 36) hx hb dX3_shiftOf_28 (by decide) (fun c5 => ?_) (fun c5 => ?_)
    · have hf := (if_neg c5).symm.trans hf
      refine lv_iconst (v := 0) hx hb dX3_shiftOf_36 (by decide) ?_
      refine lv_iload_n hx hb dX3_shiftOf_37 rfl (lv_at hl 0 rfl) ?_
      refine lv_iconst (v := 2) hx hb dX3_shiftOf_38 (by decide) ?_
      refine lv_iload_n hx hb dX3_shiftOf_39 rfl (lv_at hl 2 rfl) ?_
      refine lv_imul hx hb dX3_shiftOf_40 ?_
      refine lv_isub hx hb dX3_shiftOf_41 ?_
      refine r_max X hl.1 ml_X3_75 sm_Math_max ini_J9 cd_Math_max (Nat.le_of_ble_eq_true rfl) (Nat.le_of_ble_eq_true rfl) (Nat.le_refl _) (Nat.le_refl _) dX3_shiftOf_42 ?_
      have ho := Option.some.inj hf
      exact r_iret X hr hP hS ho rfl dX3_shiftOf_45
    · have hf := (if_pos c5).symm.trans hf
      refine lv_iload_n hx hb dX3_shiftOf_31 rfl (lv_at hl 2 rfl) ?_
      refine lv_ineg hx hb dX3_shiftOf_32 ?_
      refine lv_goto (tgt := 45) hx hb dX3_shiftOf_33 (by decide) ?_
      have ho := Option.some.inj hf
      exact r_iret X hr hP hS ho rfl dX3_shiftOf_45
  refine lv_if_ne (tgt := 19) hx hb dX3_shiftOf_9 (by decide) (fun c6 => ?_) (fun c6 => ?_)
  · have hf := (if_neg c6).symm.trans hf
    refine lv_aload_n hx hb dX3_shiftOf_19 rfl (lv_at hl 1 rfl) ?_
    refine r_get X hP 0 (wX3_g0_0 _ _ _) rfl inc_X3 2 (by decide) fl_X3_18 rfl dX3_shiftOf_20 ?_
    exact J1 (σ 0 2) hf H locs ls hP hD hS (lv_sub hl [2, 0] rfl)
  · have hf := (if_pos c6).symm.trans hf
    refine lv_aload_n hx hb dX3_shiftOf_12 rfl (lv_at hl 1 rfl) ?_
    refine r_get X hP 0 (wX3_g0_0 _ _ _) rfl inc_X3 1 (by decide) fl_X3_15 rfl dX3_shiftOf_13 ?_
    refine lv_goto (tgt := 23) hx hb dX3_shiftOf_16 (by decide) ?_
    exact J1 (σ 0 1) hf H locs ls hP hD hS (lv_sub hl [2, 0] rfl)
def rm_X3_shrink : Room := { frames := 1, cells := 0, slots := 0, locals := 21 }
theorem pv_X3_shrink : PkV RX3 yX3_shrink cX3_shrink 3 none 2 := ⟨im_X3_shrink, se_X3_shrink, ini_X3, cd_X3_shrink, by decide +kernel⟩
set_option maxHeartbeats 4000000 in
set_option maxRecDepth 100000 in
theorem c_X3_shrink (l : Launch) (E : Ev) (a : Nat → Nat) (σ : Sg) (p1 : Int32) (p2 : Int32) {out : Sg} (hf : f_X3_shrink σ p1 p2 = some out) : MtV l yX3_shrink (wl yX3_shrink cX3_shrink 3 none) rm_X3_shrink E [.ref (a 0), .int p1, .int p2] (wX3 E a σ) (wX3 E a out) := by
  refine mt_of (QQ := (fun A => va_Qv (fun _ : Unit => True) (fun _ t => QW E (wX3 E a out) t) A)) (by decide) (Nat.le_of_ble_eq_true rfl) (fun p e s m below meth c A ls X hr hP hD hS hl => ?_)
  have hx := X.1.1
  have hb := X.1.2.1
  have hl : lv_has ls 3 [(0, .ref (a 0)), (1, .int p1), (2, .int p2)] := hl
  obtain ⟨H, hHe⟩ : ∃ H : Heap, H = s.heap := ⟨_, rfl⟩
  obtain ⟨locs, hLe⟩ : ∃ locs : List Loc, locs = [] := ⟨_, rfl⟩
  have hP : va_P E.1 vwCl (wX3 E a σ) H := by rw [hHe]; exact hP
  have hS : va_S A s.heap H locs := by rw [hHe, hLe]; exact hS
  rw [← hLe, show W p l e rm_X3_shrink s m ([.ref (a 0), .int p1, .int p2] : List Value).toArray below meth c s.heap locs 0 0 = W p l e rm_X3_shrink s m ([.ref (a 0), .int p1, .int p2] : List Value).toArray below meth c H locs 0 0 from by rw [hHe]]
  refine lv_iload_n hx hb dX3_shrink_0 rfl (lv_at hl 1 rfl) ?_
  refine lv_if_ne (tgt := 21) hx hb dX3_shrink_1 (by decide) (fun c1 => ?_) (fun c1 => ?_)
  · have hf := (if_neg c1).symm.trans hf
    refine lv_aload_n hx hb dX3_shrink_21 rfl (lv_at hl 0 rfl) ?_
    refine lv_iload_n hx hb dX3_shrink_22 rfl (lv_at hl 2 rfl) ?_
    refine lv_aload_n hx hb dX3_shrink_23 rfl (lv_at hl 0 rfl) ?_
    refine r_get X hP 0 (wX3_g0_0 _ _ _) rfl inc_X3 2 (by decide) fl_X3_18 rfl dX3_shrink_24 ?_
    refine lv_iload_n hx hb dX3_shrink_27 rfl (lv_at hl 2 rfl) ?_
    refine lv_isub hx hb dX3_shrink_28 ?_
    refine r_max X hl.1 ml_X3_75 sm_Math_max ini_J9 cd_Math_max (Nat.le_of_ble_eq_true rfl) (Nat.le_of_ble_eq_true rfl) (Nat.le_refl _) (Nat.le_refl _) dX3_shrink_29 ?_
    refine r_put X hP hD hS 0 (wX3_g0_0 _ _ _) rfl inc_X3 tyX3 tyX3_ok nmX3 2 (by decide) fl_X3_18 rfl (ty := .int) rfl rfl rfl (Nat.le_of_ble_eq_true rfl) (wX3_s0_0_2 _ _ _ _) dX3_shrink_32 (fun H locs hP hD hS => ?_)
    have ho := Option.some.inj hf
    have hw := congrArg (fun o : Sg => (wX3 E a o)) ho
    exact r_vret X hr hP hS hw dX3_shrink_35
  · have hf := (if_pos c1).symm.trans hf
    refine lv_aload_n hx hb dX3_shrink_4 rfl (lv_at hl 0 rfl) ?_
    refine lv_iload_n hx hb dX3_shrink_5 rfl (lv_at hl 2 rfl) ?_
    refine lv_aload_n hx hb dX3_shrink_6 rfl (lv_at hl 0 rfl) ?_
    refine r_get X hP 0 (wX3_g0_0 _ _ _) rfl inc_X3 1 (by decide) fl_X3_15 rfl dX3_shrink_7 ?_
    refine lv_iload_n hx hb dX3_shrink_10 rfl (lv_at hl 2 rfl) ?_
    refine lv_isub hx hb dX3_shrink_11 ?_
    refine r_max X hl.1 ml_X3_75 sm_Math_max ini_J9 cd_Math_max (Nat.le_of_ble_eq_true rfl) (Nat.le_of_ble_eq_true rfl) (Nat.le_refl _) (Nat.le_refl _) dX3_shrink_12 ?_
    refine r_put X hP hD hS 0 (wX3_g0_0 _ _ _) rfl inc_X3 tyX3 tyX3_ok nmX3 1 (by decide) fl_X3_15 rfl (ty := .int) rfl rfl rfl (Nat.le_of_ble_eq_true rfl) (wX3_s0_0_1 _ _ _ _) dX3_shrink_15 (fun H locs hP hD hS => ?_)
    refine lv_goto (tgt := 35) hx hb dX3_shrink_18 (by decide) ?_
    have ho := Option.some.inj hf
    have hw := congrArg (fun o : Sg => (wX3 E a o)) ho
    exact r_vret X hr hP hS hw dX3_shrink_35
def rm_X3_bend : Room := { frames := 2, cells := 0, slots := 0, locals := 44 }
theorem pv_X3_bend : PkV RX3 yX3_bend cX3_bend 12 none 1 := ⟨im_X3_bend, se_X3_bend, ini_X3, cd_X3_bend, by decide +kernel⟩
set_option maxHeartbeats 4000000 in
set_option maxRecDepth 100000 in
theorem c_X3_bend (l : Launch) (E : Ev) (a : Nat → Nat) (σ : Sg) (p1 : Int32) {out : Sg} (hf : f_X3_bend σ p1 = some out) : MtV l yX3_bend (wl yX3_bend cX3_bend 12 none) rm_X3_bend E [.ref (a 0), .int p1] (wX3 E a σ) (wX3 E a out) := by
  refine mt_of (QQ := (fun A => va_Qv (fun _ : Unit => True) (fun _ t => QW E (wX3 E a out) t) A)) (by decide) (Nat.le_of_ble_eq_true rfl) (fun p e s m below meth c A ls X hr hP hD hS hl => ?_)
  have hx := X.1.1
  have hb := X.1.2.1
  have hl : lv_has ls 12 [(0, .ref (a 0)), (1, .int p1)] := hl
  obtain ⟨H, hHe⟩ : ∃ H : Heap, H = s.heap := ⟨_, rfl⟩
  obtain ⟨locs, hLe⟩ : ∃ locs : List Loc, locs = [] := ⟨_, rfl⟩
  have hP : va_P E.1 vwCl (wX3 E a σ) H := by rw [hHe]; exact hP
  have hS : va_S A s.heap H locs := by rw [hHe, hLe]; exact hS
  rw [← hLe, show W p l e rm_X3_bend s m ([.ref (a 0), .int p1] : List Value).toArray below meth c s.heap locs 0 0 = W p l e rm_X3_bend s m ([.ref (a 0), .int p1] : List Value).toArray below meth c H locs 0 0 from by rw [hHe]]
  refine lv_aload_n hx hb dX3_bend_0 rfl (lv_at hl 0 rfl) ?_
  obtain ⟨z1, hz1, hf⟩ := obd hf
  refine cV_allV X (As := []) (rest := []) (c_X3_countHeights l E a σ hz1) pv_X3_countHeights ml_X3_56 ⟨rfl, rfl⟩ ⟨(Nat.le_of_ble_eq_true rfl), (Nat.le_of_ble_eq_true rfl)⟩ hP hD hS (wX3_g0_0 _ _ _) rfl (wX3_adr _ _ _ _) rfl hl.1 rfl (Nat.le_of_ble_eq_true rfl) dX3_bend_1 ⟨Nat.le_refl _, Nat.le_refl _⟩ (fun H locs hP hD hS => ?_)
  refine lv_iload_n hx hb dX3_bend_4 rfl (lv_at hl 1 rfl) ?_
  obtain ⟨z2, hz2, hf⟩ := obd hf
  refine cS_roI X (As := [.int p1]) (rest := []) (c_X3_axisOf l E p1 hz2) ps_X3_axisOf ml_X3_49 ⟨rfl, rfl⟩ ⟨(Nat.le_of_ble_eq_true rfl), (Nat.le_of_ble_eq_true rfl)⟩ hP hD hS (is := []) (wc := []) rfl rfl rfl hl.1 rfl (Nat.le_of_ble_eq_true rfl) dX3_bend_5 ⟨Nat.le_refl _, Nat.le_refl _⟩ (fun H locs hP hS => ?_)
  refine lv_istore_n (lv' := [(2, .int z2), (0, .ref (a 0)), (1, .int p1)]) hx hb dX3_bend_8 rfl hl (by decide) rfl (fun ls hl => ?_)
  refine lv_iload_n hx hb dX3_bend_9 rfl (lv_at hl 2 rfl) ?_
  obtain ⟨z3, hz3, hf⟩ := obd hf
  refine cS_roI X (As := [.int p1]) (rest := []) (c_X3_lineOf l E p1 hz3) ps_X3_lineOf ml_X3_53 ⟨rfl, rfl⟩ ⟨(Nat.le_of_ble_eq_true rfl), (Nat.le_of_ble_eq_true rfl)⟩ hP hD hS (is := []) (wc := []) rfl rfl rfl hl.1 rfl (Nat.le_of_ble_eq_true rfl) dX3_bend_10 ⟨Nat.le_refl _, Nat.le_refl _⟩ (fun H locs hP hS => ?_)
  refine lv_istore_n (lv' := [(3, .int z3), (2, .int z2), (0, .ref (a 0)), (1, .int p1)]) hx hb dX3_bend_13 rfl hl (by decide) rfl (fun ls hl => ?_)
  refine lv_iload_n hx hb dX3_bend_14 rfl (lv_at hl 3 rfl) ?_
  obtain ⟨z4, hz4, hf⟩ := obd hf
  refine cS_roI X (As := [.int p1]) (rest := []) (c_X3_overOf l E p1 hz4) ps_X3_overOf ml_X3_59 ⟨rfl, rfl⟩ ⟨(Nat.le_of_ble_eq_true rfl), (Nat.le_of_ble_eq_true rfl)⟩ hP hD hS (is := []) (wc := []) rfl rfl rfl hl.1 rfl (Nat.le_of_ble_eq_true rfl) dX3_bend_15 ⟨Nat.le_refl _, Nat.le_refl _⟩ (fun H locs hP hS => ?_)
  refine lv_iconst (v := 1) hx hb dX3_bend_18 (by decide) ?_
  have J1 : ∀ (x5 : Int32), j_X3_bend_1 p1 z1 z2 z3 x5 = some out → ∀ (H : Heap) (locs : List Loc) (ls : Array Slot), va_P E.1 vwCl (wX3 E a z1) H → va_D A (wX3 E a z1) → va_S A s.heap H locs → lv_has ls 12 [(0, .ref (a 0)), (1, .int p1), (2, .int z2), (3, .int z3)] → W p l e rm_X3_bend s m ([.ref (a 0), .int p1] : List Value).toArray below meth c H locs 0 0 (MQ below (va_Qv (fun _ : Unit => True) (fun _ t => QW E (wX3 E a out) t) A) ([.ref (a 0), .int p1] : List Value).toArray s 0 0 A) (F0 m 27 ls [.int x5]) := by
    intro x5 hf H locs ls hP hD hS hl
    refine lv_istore (lv' := [(4, .int x5), (0, .ref (a 0)), (1, .int p1), (2, .int z2), (3, .int z3)]) hx hb dX3_bend_27 hl (by decide) rfl (fun ls hl => ?_)
    refine lv_iload_n hx hb dX3_bend_29 rfl (lv_at hl 3 rfl) ?_
    have J2 : ∀ (g6 : Sg), j_X3_bend_2 z2 z3 g6 = some out → ∀ (H : Heap) (locs : List Loc) (ls : Array Slot), va_P E.1 vwCl (wX3 E a g6) H → va_D A (wX3 E a g6) → va_S A s.heap H locs → lv_has ls 12 [(0, .ref (a 0)), (2, .int z2), (3, .int z3)] → W p l e rm_X3_bend s m ([.ref (a 0), .int p1] : List Value).toArray below meth c H locs 0 0 (MQ below (va_Qv (fun _ : Unit => True) (fun _ t => QW E (wX3 E a out) t) A) ([.ref (a 0), .int p1] : List Value).toArray s 0 0 A) (F0 m 257 ls []) := by
      intro g6 hf H locs ls hP hD hS hl
      refine lv_aload_n hx hb dX3_bend_257 rfl (lv_at hl 0 rfl) ?_
      refine lv_iload_n hx hb dX3_bend_258 rfl (lv_at hl 1 rfl) ?_
      refine lv_iload_n hx hb dX3_bend_259 rfl (lv_at hl 2 rfl) ?_
      obtain ⟨z7, hz7, hf⟩ := obd hf
      refine cV_allV X (As := [.int z2, .int z3]) (rest := []) (c_X3_shrink l E a g6 z2 z3 hz7) pv_X3_shrink ml_X3_71 ⟨rfl, rfl⟩ ⟨(Nat.le_of_ble_eq_true rfl), (Nat.le_of_ble_eq_true rfl)⟩ hP hD hS (wX3_g0_0 _ _ _) rfl (wX3_adr _ _ _ _) rfl hl.1 rfl (Nat.le_of_ble_eq_true rfl) dX3_bend_260 ⟨Nat.le_refl _, Nat.le_refl _⟩ (fun H locs hP hD hS => ?_)
      have ho := Option.some.inj hf
      have hw := congrArg (fun o : Sg => (wX3 E a o)) ho
      exact r_vret X hr hP hS hw dX3_bend_263
    refine lv_if_ne (tgt := 40) hx hb dX3_bend_30 (by decide) (fun c8 => ?_) (fun c8 => ?_)
    · have hf := (if_neg c8).symm.trans hf
      refine lv_aload_n hx hb dX3_bend_40 rfl (lv_at hl 1 rfl) ?_
      refine r_get X hP 0 (wX3_g0_0 _ _ _) rfl inc_X3 4 (by decide) fl_X3_25 rfl dX3_bend_41 ?_
      refine lv_astore (lv' := [(5, .ref (a 2)), (4, .int x5), (0, .ref (a 0)), (1, .int p1), (2, .int z2), (3, .int z3)]) hx hb dX3_bend_44 hl (by decide) rfl (fun ls hl => ?_)
      refine lv_aload_n hx hb dX3_bend_46 rfl (lv_at hl 2 rfl) ?_
      refine lv_iload_n hx hb dX3_bend_47 rfl (lv_at hl 3 rfl) ?_
      obtain ⟨z9, hz9, hf⟩ := obd hf
      refine cV_allI X (As := [.int p1]) (rest := []) (c_X3_shiftOf l E a z1 p1 hz9) pv_X3_shiftOf ml_X3_62 ⟨rfl, rfl⟩ ⟨(Nat.le_of_ble_eq_true rfl), (Nat.le_of_ble_eq_true rfl)⟩ hP hD hS (wX3_g0_0 _ _ _) rfl (wX3_adr _ _ _ _) rfl hl.1 rfl (Nat.le_of_ble_eq_true rfl) dX3_bend_48 ⟨Nat.le_refl _, Nat.le_refl _⟩ (fun H locs hP hD hS => ?_)
      refine lv_istore (lv' := [(6, .int z9), (5, .ref (a 2)), (4, .int x5), (0, .ref (a 0)), (1, .int p1), (2, .int z2), (3, .int z3)]) hx hb dX3_bend_51 hl (by decide) rfl (fun ls hl => ?_)
      refine lv_iconst (v := 0) hx hb dX3_bend_53 (by decide) ?_
      refine lv_istore (lv' := [(7, .int 0), (6, .int z9), (5, .ref (a 2)), (4, .int x5), (0, .ref (a 0)), (1, .int p1), (2, .int z2), (3, .int z3)]) hx hb dX3_bend_54 hl (by decide) rfl (fun ls hl => ?_)
      have L12 := lc2_ind (o := out) (step := (s_X3_bend_56 p1 z2 z3 x5 z9)) (fun x10 g11 => ∀ (H : Heap) (locs : List Loc) (ls : Array Slot), va_P E.1 vwCl (wX3 E a g11) H → va_D A (wX3 E a g11) → va_S A s.heap H locs → lv_has ls 12 [(0, .ref (a 0)), (1, .int p1), (2, .int z2), (3, .int z3), (4, .int x5), (5, .ref (a 2)), (6, .int z9), (7, .int x10)] → W p l e rm_X3_bend s m ([.ref (a 0), .int p1] : List Value).toArray below meth c H locs 0 0 (MQ below (va_Qv (fun _ : Unit => True) (fun _ t => QW E (wX3 E a out) t) A) ([.ref (a 0), .int p1] : List Value).toArray s 0 0 A) (F0 m 56 ls [])) (fun x10 g11 k12 ih12 hf H locs ls hP hD hS hl => by
        refine lv_iload hx hb dX3_bend_56 (lv_at hl 7 rfl) ?_
        refine lv_aload_n hx hb dX3_bend_58 rfl (lv_at hl 0 rfl) ?_
        refine r_get X hP 0 (wX3_g0_0 _ _ _) rfl inc_X3 0 (by decide) fl_X3_9 rfl dX3_bend_59 ?_
        refine lv_icmp_ge (tgt := 257) hx hb dX3_bend_62 (by decide) (fun c13 => ?_) (fun c13 => ?_)
        · have hf := (if_pos c13).symm.trans hf
          exact J2 g11 hf H locs ls hP hD hS (lv_sub hl [0, 2, 3] rfl)
        · have hf := (if_neg c13).symm.trans hf
          refine lv_aload hx hb dX3_bend_65 (lv_at hl 5 rfl) ?_
          refine lv_iload hx hb dX3_bend_67 (lv_at hl 7 rfl) ?_
          obtain ⟨h14, hf⟩ := chk_in hf
          refine r_iald X hP 2 (wX3_g0_2 _ _ _) h14 dX3_bend_69 ?_
          refine lv_istore (lv' := [(8, .int (g11 2 (x10 : Int32).toNatClampNeg)), (0, .ref (a 0)), (1, .int p1), (2, .int z2), (3, .int z3), (4, .int x5), (5, .ref (a 2)), (6, .int z9), (7, .int x10)]) hx hb dX3_bend_70 hl (by decide) rfl (fun ls hl => ?_)
          refine lv_iconst (v := 2) hx hb dX3_bend_72 (by decide) ?_
          refine lv_iload_n hx hb dX3_bend_73 rfl (lv_at hl 4 rfl) ?_
          refine lv_imul hx hb dX3_bend_74 ?_
          refine lv_iconst (v := 1) hx hb dX3_bend_75 (by decide) ?_
          refine lv_isub hx hb dX3_bend_76 ?_
          refine lv_iload hx hb dX3_bend_77 (lv_at hl 0 rfl) ?_
          refine lv_isub hx hb dX3_bend_79 ?_
          refine lv_istore (lv' := [(9, .int (((2 * z3) - 1) - (g11 2 (x10 : Int32).toNatClampNeg))), (8, .int (g11 2 (x10 : Int32).toNatClampNeg)), (0, .ref (a 0)), (1, .int p1), (2, .int z2), (3, .int z3), (4, .int x5), (5, .ref (a 2)), (6, .int z9), (7, .int x10)]) hx hb dX3_bend_80 hl (by decide) rfl (fun ls hl => ?_)
          refine lv_iload_n hx hb dX3_bend_82 rfl (lv_at hl 4 rfl) ?_
          have J3 : ∀ (x15 : Int32), j_X3_bend_3 p1 z3 x5 z9 x10 g11 k12 x15 = some out → ∀ (H : Heap) (locs : List Loc) (ls : Array Slot), va_P E.1 vwCl (wX3 E a g11) H → va_D A (wX3 E a g11) → va_S A s.heap H locs → lv_has ls 12 [(0, .ref (a 0)), (1, .int p1), (2, .int z2), (3, .int z3), (4, .int x5), (5, .ref (a 2)), (6, .int z9), (7, .int x10), (8, .int (g11 2 (x10 : Int32).toNatClampNeg)), (9, .int (((2 * z3) - 1) - (g11 2 (x10 : Int32).toNatClampNeg)))] → W p l e rm_X3_bend s m ([.ref (a 0), .int p1] : List Value).toArray below meth c H locs 0 0 (MQ below (va_Qv (fun _ : Unit => True) (fun _ t => QW E (wX3 E a out) t) A) ([.ref (a 0), .int p1] : List Value).toArray s 0 0 A) (F0 m 115 ls [.int x15]) := by
            intro x15 hf H locs ls hP hD hS hl
            refine lv_istore (lv' := [(10, .int x15), (0, .ref (a 0)), (1, .int p1), (2, .int z2), (3, .int z3), (4, .int x5), (5, .ref (a 2)), (6, .int z9), (7, .int x10), (8, .int (g11 2 (x10 : Int32).toNatClampNeg)), (9, .int (((2 * z3) - 1) - (g11 2 (x10 : Int32).toNatClampNeg)))]) hx hb dX3_bend_115 hl (by decide) rfl (fun ls hl => ?_)
            refine lv_iload_n hx hb dX3_bend_117 rfl (lv_at hl 2 rfl) ?_
            obtain ⟨z16, hz16, hf⟩ := obd hf
            refine cS_roI X (As := [.int p1]) (rest := []) (c_X3_partOf l E p1 hz16) ps_X3_partOf ml_X3_68 ⟨rfl, rfl⟩ ⟨(Nat.le_of_ble_eq_true rfl), (Nat.le_of_ble_eq_true rfl)⟩ hP hD hS (is := []) (wc := []) rfl rfl rfl hl.1 rfl (Nat.le_of_ble_eq_true rfl) dX3_bend_118 ⟨Nat.le_refl _, Nat.le_refl _⟩ (fun H locs hP hS => ?_)
            have J4 : j_X3_bend_4 x5 z9 x10 g11 k12 x15 = some out → ∀ (H : Heap) (locs : List Loc) (ls : Array Slot), va_P E.1 vwCl (wX3 E a g11) H → va_D A (wX3 E a g11) → va_S A s.heap H locs → lv_has ls 12 [(0, .ref (a 0)), (1, .int p1), (2, .int z2), (3, .int z3), (4, .int x5), (5, .ref (a 2)), (6, .int z9), (7, .int x10), (8, .int (g11 2 (x10 : Int32).toNatClampNeg)), (10, .int x15)] → W p l e rm_X3_bend s m ([.ref (a 0), .int p1] : List Value).toArray below meth c H locs 0 0 (MQ below (va_Qv (fun _ : Unit => True) (fun _ t => QW E (wX3 E a out) t) A) ([.ref (a 0), .int p1] : List Value).toArray s 0 0 A) (F0 m 220 ls []) := by
              intro hf H locs ls hP hD hS hl
              refine lv_aload_n hx hb dX3_bend_220 rfl (lv_at hl 0 rfl) ?_
              refine r_get X hP 0 (wX3_g0_0 _ _ _) rfl inc_X3 5 (by decide) fl_X3_28 rfl dX3_bend_221 ?_
              refine lv_iload hx hb dX3_bend_224 (lv_at hl 7 rfl) ?_
              refine lv_dup2_11 hx hb dX3_bend_226 rfl rfl ?_
              obtain ⟨h17, hf⟩ := chk_in hf
              refine r_iald X hP 3 (wX3_g0_3 _ _ _) h17 dX3_bend_227 ?_
              refine lv_iload hx hb dX3_bend_228 (lv_at hl 4 rfl) ?_
              have J5 : ∀ (x18 : Int32), j_X3_bend_5 z9 x10 g11 k12 x18 = some out → ∀ (H : Heap) (locs : List Loc) (ls : Array Slot), va_P E.1 vwCl (wX3 E a g11) H → va_D A (wX3 E a g11) → va_S A s.heap H locs → lv_has ls 12 [(0, .ref (a 0)), (1, .int p1), (2, .int z2), (3, .int z3), (4, .int x5), (5, .ref (a 2)), (6, .int z9), (7, .int x10), (8, .int (g11 2 (x10 : Int32).toNatClampNeg))] → W p l e rm_X3_bend s m ([.ref (a 0), .int p1] : List Value).toArray below meth c H locs 0 0 (MQ below (va_Qv (fun _ : Unit => True) (fun _ t => QW E (wX3 E a out) t) A) ([.ref (a 0), .int p1] : List Value).toArray s 0 0 A) (F0 m 239 ls [.int x18, .int (g11 3 (x10 : Int32).toNatClampNeg), .int x10, .ref (a 3)]) := by
                intro x18 hf H locs ls hP hD hS hl
                refine lv_iadd hx hb dX3_bend_239 ?_
                obtain ⟨h19, hf⟩ := chk_in hf
                refine r_iast X hP hD hS 3 (wX3_g0_3 _ _ _) h19 (wX3_t0_3 _ _ _ _ _) dX3_bend_240 (fun H locs hP hD hS => ?_)
                refine lv_aload hx hb dX3_bend_241 (lv_at hl 5 rfl) ?_
                refine lv_iload hx hb dX3_bend_243 (lv_at hl 7 rfl) ?_
                refine lv_iload hx hb dX3_bend_245 (lv_at hl 8 rfl) ?_
                refine lv_iload hx hb dX3_bend_247 (lv_at hl 6 rfl) ?_
                refine lv_iadd hx hb dX3_bend_249 ?_
                obtain ⟨h20, hf⟩ := chk_in hf
                refine r_iast X hP hD hS 2 (wX3_g0_2 _ _ _) h20 (wX3_t0_2 _ _ _ _ _) dX3_bend_250 (fun H locs hP hD hS => ?_)
                refine lv_iinc (v := (x10 + 1)) (lv' := [(7, .int (x10 + 1)), (0, .ref (a 0)), (1, .int p1), (2, .int z2), (3, .int z3), (4, .int x5), (5, .ref (a 2)), (6, .int z9), (8, .int (g11 2 (x10 : Int32).toNatClampNeg))]) hx hb dX3_bend_251 hl (k := 7) rfl rfl (by decide) rfl (fun ls hl => ?_)
                refine lv_goto (tgt := 56) hx hb dX3_bend_254 (by decide) ?_
                exact ih12 (x10 + 1) (sg_st (sg_st g11 3 (x10 : Int32).toNatClampNeg ((g11 3 (x10 : Int32).toNatClampNeg) + x18)) 2 (x10 : Int32).toNatClampNeg ((g11 2 (x10 : Int32).toNatClampNeg) + z9)) hf H locs ls hP hD hS (lv_sub hl [1, 2, 3, 4, 5, 6, 7, 0] rfl)
              refine lv_if_eq (tgt := 237) hx hb dX3_bend_230 (by decide) (fun c21 => ?_) (fun c21 => ?_)
              · have hf := (if_pos c21).symm.trans hf
                refine lv_iload hx hb dX3_bend_237 (lv_at hl 9 rfl) ?_
                exact J5 x15 hf H locs ls hP hD hS (lv_sub hl [0, 1, 2, 3, 4, 5, 6, 7, 8] rfl)
              · have hf := (if_neg c21).symm.trans hf
                refine lv_iconst (v := 0) hx hb dX3_bend_233 (by decide) ?_
                refine lv_goto (tgt := 239) hx hb dX3_bend_234 (by decide) ?_
                exact J5 0 hf H locs ls hP hD hS (lv_sub hl [0, 1, 2, 3, 4, 5, 6, 7, 8] rfl)
            have J6 : j_X3_bend_6 z3 x5 z9 x10 g11 k12 x15 = some out → ∀ (H : Heap) (locs : List Loc) (ls : Array Slot), va_P E.1 vwCl (wX3 E a g11) H → va_D A (wX3 E a g11) → va_S A s.heap H locs → lv_has ls 12 [(0, .ref (a 0)), (1, .int p1), (2, .int z2), (3, .int z3), (4, .int x5), (5, .ref (a 2)), (6, .int z9), (7, .int x10), (9, .int (((2 * z3) - 1) - (g11 2 (x10 : Int32).toNatClampNeg))), (10, .int x15)] → W p l e rm_X3_bend s m ([.ref (a 0), .int p1] : List Value).toArray below meth c H locs 0 0 (MQ below (va_Qv (fun _ : Unit => True) (fun _ t => QW E (wX3 E a out) t) A) ([.ref (a 0), .int p1] : List Value).toArray s 0 0 A) (F0 m 139 ls []) := by
              intro hf H locs ls hP hD hS hl
              refine lv_aload_n hx hb dX3_bend_139 rfl (lv_at hl 0 rfl) ?_
              refine lv_aload_n hx hb dX3_bend_140 rfl (lv_at hl 0 rfl) ?_
              refine r_get X hP 0 (wX3_g0_0 _ _ _) rfl inc_X3 3 (by decide) fl_X3_21 rfl dX3_bend_141 ?_
              refine lv_iload hx hb dX3_bend_144 (lv_at hl 7 rfl) ?_
              obtain ⟨h22, hf⟩ := chk_in hf
              refine r_iald X hP 1 (wX3_g0_1 _ _ _) h22 dX3_bend_146 ?_
              refine lv_aload_n hx hb dX3_bend_147 rfl (lv_at hl 0 rfl) ?_
              refine r_get X hP 0 (wX3_g0_0 _ _ _) rfl inc_X3 4 (by decide) fl_X3_25 rfl dX3_bend_148 ?_
              refine lv_iload hx hb dX3_bend_151 (lv_at hl 7 rfl) ?_
              obtain ⟨h23, hf⟩ := chk_in hf
              refine r_iald X hP 2 (wX3_g0_2 _ _ _) h23 dX3_bend_153 ?_
              obtain ⟨z24, hz24, hf⟩ := obd hf
              refine cV_allI X (As := [.int (g11 1 (x10 : Int32).toNatClampNeg), .int (g11 2 (x10 : Int32).toNatClampNeg)]) (rest := []) (c_X3_heightAt l E a g11 (g11 1 (x10 : Int32).toNatClampNeg) (g11 2 (x10 : Int32).toNatClampNeg) hz24) pv_X3_heightAt ml_X3_65 ⟨rfl, rfl⟩ ⟨(Nat.le_of_ble_eq_true rfl), (Nat.le_of_ble_eq_true rfl)⟩ hP hD hS (wX3_g0_0 _ _ _) rfl (wX3_adr _ _ _ _) rfl hl.1 rfl (Nat.le_of_ble_eq_true rfl) dX3_bend_154 ⟨Nat.le_refl _, Nat.le_refl _⟩ (fun H locs hP hD hS => ?_)
              refine lv_iconst (v := 1) hx hb dX3_bend_157 (by decide) ?_
              refine lv_isub hx hb dX3_bend_158 ?_
              refine lv_aload_n hx hb dX3_bend_159 rfl (lv_at hl 0 rfl) ?_
              refine r_get X hP 0 (wX3_g0_0 _ _ _) rfl inc_X3 5 (by decide) fl_X3_28 rfl dX3_bend_160 ?_
              refine lv_iload hx hb dX3_bend_163 (lv_at hl 7 rfl) ?_
              obtain ⟨h25, hf⟩ := chk_in hf
              refine r_iald X hP 3 (wX3_g0_3 _ _ _) h25 dX3_bend_165 ?_
              refine lv_isub hx hb dX3_bend_166 ?_
              refine lv_istore (lv' := [(11, .int ((z24 - 1) - (g11 3 (x10 : Int32).toNatClampNeg))), (0, .ref (a 0)), (1, .int p1), (2, .int z2), (3, .int z3), (4, .int x5), (5, .ref (a 2)), (6, .int z9), (7, .int x10), (9, .int (((2 * z3) - 1) - (g11 2 (x10 : Int32).toNatClampNeg))), (10, .int x15)]) hx hb dX3_bend_167 hl (by decide) rfl (fun ls hl => ?_)
              refine lv_aload_n hx hb dX3_bend_169 rfl (lv_at hl 1 rfl) ?_
              refine r_get X hP 0 (wX3_g0_0 _ _ _) rfl inc_X3 5 (by decide) fl_X3_28 rfl dX3_bend_170 ?_
              refine lv_iload hx hb dX3_bend_173 (lv_at hl 8 rfl) ?_
              refine lv_iload hx hb dX3_bend_175 (lv_at hl 5 rfl) ?_
              have J7 : ∀ (x26 : Int32), j_X3_bend_7 z3 z9 x10 g11 k12 x26 = some out → ∀ (H : Heap) (locs : List Loc) (ls : Array Slot), va_P E.1 vwCl (wX3 E a g11) H → va_D A (wX3 E a g11) → va_S A s.heap H locs → lv_has ls 12 [(0, .ref (a 0)), (1, .int p1), (2, .int z2), (3, .int z3), (4, .int x5), (5, .ref (a 2)), (6, .int z9), (7, .int x10), (9, .int (((2 * z3) - 1) - (g11 2 (x10 : Int32).toNatClampNeg)))] → W p l e rm_X3_bend s m ([.ref (a 0), .int p1] : List Value).toArray below meth c H locs 0 0 (MQ below (va_Qv (fun _ : Unit => True) (fun _ t => QW E (wX3 E a out) t) A) ([.ref (a 0), .int p1] : List Value).toArray s 0 0 A) (F0 m 190 ls [.int x26, .int x10, .ref (a 3)]) := by
                intro x26 hf H locs ls hP hD hS hl
                obtain ⟨h27, hf⟩ := chk_in hf
                refine r_iast X hP hD hS 3 (wX3_g0_3 _ _ _) h27 (wX3_t0_3 _ _ _ _ _) dX3_bend_190 (fun H locs hP hD hS => ?_)
                refine lv_aload_n hx hb dX3_bend_191 rfl (lv_at hl 0 rfl) ?_
                refine r_get X hP 0 (wX3_g0_0 _ _ _) rfl inc_X3 6 (by decide) fl_X3_31 rfl dX3_bend_192 ?_
                refine lv_iload hx hb dX3_bend_195 (lv_at hl 7 rfl) ?_
                refine lv_iconst (v := 1) hx hb dX3_bend_197 (by decide) ?_
                refine lv_aload_n hx hb dX3_bend_198 rfl (lv_at hl 0 rfl) ?_
                refine r_get X hP 0 (wX3_g0_0 _ _ _) rfl inc_X3 6 (by decide) fl_X3_31 rfl dX3_bend_199 ?_
                refine lv_iload hx hb dX3_bend_202 (lv_at hl 7 rfl) ?_
                obtain ⟨h28, hf⟩ := chk_in hf
                refine r_iald X hP 4 (wX3_g0_4 _ _ _) h28 dX3_bend_204 ?_
                refine lv_isub hx hb dX3_bend_205 ?_
                obtain ⟨h29, hf⟩ := chk_in hf
                refine r_iast X hP hD hS 4 (wX3_g0_4 _ _ _) h29 (wX3_t0_4 _ _ _ _ _) dX3_bend_206 (fun H locs hP hD hS => ?_)
                refine lv_aload hx hb dX3_bend_207 (lv_at hl 5 rfl) ?_
                refine lv_iload hx hb dX3_bend_209 (lv_at hl 7 rfl) ?_
                refine lv_iload hx hb dX3_bend_211 (lv_at hl 8 rfl) ?_
                refine lv_iload hx hb dX3_bend_213 (lv_at hl 6 rfl) ?_
                refine lv_iadd hx hb dX3_bend_215 ?_
                obtain ⟨h30, hf⟩ := chk_in hf
                refine r_iast X hP hD hS 2 (wX3_g0_2 _ _ _) h30 (wX3_t0_2 _ _ _ _ _) dX3_bend_216 (fun H locs hP hD hS => ?_)
                refine lv_goto (tgt := 251) hx hb dX3_bend_217 (by decide) ?_
                refine lv_iinc (v := (x10 + 1)) (lv' := [(7, .int (x10 + 1)), (0, .ref (a 0)), (1, .int p1), (2, .int z2), (3, .int z3), (4, .int x5), (5, .ref (a 2)), (6, .int z9), (9, .int (((2 * z3) - 1) - (g11 2 (x10 : Int32).toNatClampNeg)))]) hx hb dX3_bend_251 hl (k := 7) rfl rfl (by decide) rfl (fun ls hl => ?_)
                refine lv_goto (tgt := 56) hx hb dX3_bend_254 (by decide) ?_
                exact ih12 (x10 + 1) (sg_st (sg_st (sg_st g11 3 (x10 : Int32).toNatClampNeg x26) 4 (x10 : Int32).toNatClampNeg (1 - ((sg_st g11 3 (x10 : Int32).toNatClampNeg x26) 4 (x10 : Int32).toNatClampNeg))) 2 (x10 : Int32).toNatClampNeg ((((2 * z3) - 1) - (g11 2 (x10 : Int32).toNatClampNeg)) + z9)) hf H locs ls hP hD hS (lv_sub hl [1, 2, 3, 4, 5, 6, 7, 0] rfl)
              refine lv_if_eq (tgt := 188) hx hb dX3_bend_177 (by decide) (fun c31 => ?_) (fun c31 => ?_)
              · have hf := (if_pos c31).symm.trans hf
                refine lv_iload hx hb dX3_bend_188 (lv_at hl 0 rfl) ?_
                exact J7 ((z24 - 1) - (g11 3 (x10 : Int32).toNatClampNeg)) hf H locs ls hP hD hS (lv_sub hl [1, 2, 3, 4, 5, 6, 7, 8, 9] rfl)
              · have hf := (if_neg c31).symm.trans hf
                refine lv_iload hx hb dX3_bend_180 (lv_at hl 10 rfl) ?_
                refine lv_iload hx hb dX3_bend_182 (lv_at hl 0 rfl) ?_
                refine lv_iadd hx hb dX3_bend_184 ?_
                refine lv_goto (tgt := 190) hx hb dX3_bend_185 (by decide) ?_
                exact J7 (x15 + ((z24 - 1) - (g11 3 (x10 : Int32).toNatClampNeg))) hf H locs ls hP hD hS (lv_sub hl [1, 2, 3, 4, 5, 6, 7, 8, 9] rfl)
            refine lv_if_ne (tgt := 133) hx hb dX3_bend_121 (by decide) (fun c32 => ?_) (fun c32 => ?_)
            · have hf := (if_neg c32).symm.trans hf
              refine lv_iload hx hb dX3_bend_133 (lv_at hl 9 rfl) ?_
              refine lv_iload_n hx hb dX3_bend_135 rfl (lv_at hl 4 rfl) ?_
              refine lv_icmp_lt (tgt := 220) hx hb dX3_bend_136 (by decide) (fun c33 => ?_) (fun c33 => ?_)
              · have hf := (if_pos c33).symm.trans hf
                exact J4 hf H locs ls hP hD hS (lv_sub hl [1, 2, 3, 4, 5, 6, 7, 8, 9, 0] rfl)
              · have hf := (if_neg c33).symm.trans hf
                exact J6 hf H locs ls hP hD hS (lv_sub hl [1, 2, 3, 4, 5, 6, 7, 8, 10, 0] rfl)
            · have hf := (if_pos c32).symm.trans hf
              refine lv_iload hx hb dX3_bend_124 (lv_at hl 9 rfl) ?_
              refine lv_iload_n hx hb dX3_bend_126 rfl (lv_at hl 4 rfl) ?_
              refine lv_icmp_ge (tgt := 220) hx hb dX3_bend_127 (by decide) (fun c34 => ?_) (fun c34 => ?_)
              · have hf := (if_pos c34).symm.trans hf
                exact J4 hf H locs ls hP hD hS (lv_sub hl [1, 2, 3, 4, 5, 6, 7, 8, 9, 0] rfl)
              · have hf := (if_neg c34).symm.trans hf
                refine lv_goto (tgt := 139) hx hb dX3_bend_130 (by decide) ?_
                exact J6 hf H locs ls hP hD hS (lv_sub hl [1, 2, 3, 4, 5, 6, 7, 8, 10, 0] rfl)
          refine lv_if_ne (tgt := 102) hx hb dX3_bend_83 (by decide) (fun c35 => ?_) (fun c35 => ?_)
          · have hf := (if_neg c35).symm.trans hf
            refine lv_aload_n hx hb dX3_bend_102 rfl (lv_at hl 2 rfl) ?_
            refine lv_aload_n hx hb dX3_bend_103 rfl (lv_at hl 2 rfl) ?_
            refine r_get X hP 0 (wX3_g0_0 _ _ _) rfl inc_X3 3 (by decide) fl_X3_21 rfl dX3_bend_104 ?_
            refine lv_iload hx hb dX3_bend_107 (lv_at hl 9 rfl) ?_
            obtain ⟨h36, hf⟩ := chk_in hf
            refine r_iald X hP 1 (wX3_g0_1 _ _ _) h36 dX3_bend_109 ?_
            refine lv_iload hx hb dX3_bend_110 (lv_at hl 0 rfl) ?_
            obtain ⟨z37, hz37, hf⟩ := obd hf
            refine cV_allI X (As := [.int (g11 1 (x10 : Int32).toNatClampNeg), .int (((2 * z3) - 1) - (g11 2 (x10 : Int32).toNatClampNeg))]) (rest := []) (c_X3_heightAt l E a g11 (g11 1 (x10 : Int32).toNatClampNeg) (((2 * z3) - 1) - (g11 2 (x10 : Int32).toNatClampNeg)) hz37) pv_X3_heightAt ml_X3_65 ⟨rfl, rfl⟩ ⟨(Nat.le_of_ble_eq_true rfl), (Nat.le_of_ble_eq_true rfl)⟩ hP hD hS (wX3_g0_0 _ _ _) rfl (wX3_adr _ _ _ _) rfl hl.1 rfl (Nat.le_of_ble_eq_true rfl) dX3_bend_112 ⟨Nat.le_refl _, Nat.le_refl _⟩ (fun H locs hP hD hS => ?_)
            exact J3 z37 hf H locs ls hP hD hS (lv_sub hl [2, 3, 4, 5, 6, 7, 8, 9, 1, 0] rfl)
          · have hf := (if_pos c35).symm.trans hf
            refine lv_aload_n hx hb dX3_bend_86 rfl (lv_at hl 2 rfl) ?_
            refine lv_iload hx hb dX3_bend_87 (lv_at hl 0 rfl) ?_
            refine lv_aload_n hx hb dX3_bend_89 rfl (lv_at hl 2 rfl) ?_
            refine r_get X hP 0 (wX3_g0_0 _ _ _) rfl inc_X3 4 (by decide) fl_X3_25 rfl dX3_bend_90 ?_
            refine lv_iload hx hb dX3_bend_93 (lv_at hl 9 rfl) ?_
            obtain ⟨h38, hf⟩ := chk_in hf
            refine r_iald X hP 2 (wX3_g0_2 _ _ _) h38 dX3_bend_95 ?_
            obtain ⟨z39, hz39, hf⟩ := obd hf
            refine cV_allI X (As := [.int (((2 * z3) - 1) - (g11 2 (x10 : Int32).toNatClampNeg)), .int (g11 2 (x10 : Int32).toNatClampNeg)]) (rest := []) (c_X3_heightAt l E a g11 (((2 * z3) - 1) - (g11 2 (x10 : Int32).toNatClampNeg)) (g11 2 (x10 : Int32).toNatClampNeg) hz39) pv_X3_heightAt ml_X3_65 ⟨rfl, rfl⟩ ⟨(Nat.le_of_ble_eq_true rfl), (Nat.le_of_ble_eq_true rfl)⟩ hP hD hS (wX3_g0_0 _ _ _) rfl (wX3_adr _ _ _ _) rfl hl.1 rfl (Nat.le_of_ble_eq_true rfl) dX3_bend_96 ⟨Nat.le_refl _, Nat.le_refl _⟩ (fun H locs hP hD hS => ?_)
            refine lv_goto (tgt := 115) hx hb dX3_bend_99 (by decide) ?_
            exact J3 z39 hf H locs ls hP hD hS (lv_sub hl [2, 3, 4, 5, 6, 7, 8, 9, 1, 0] rfl))
      exact L12 1000 0 z1 hf H locs ls hP hD hS (lv_sub hl [4, 5, 6, 7, 3, 2, 1, 0] rfl)
    · have hf := (if_pos c8).symm.trans hf
      refine lv_aload_n hx hb dX3_bend_33 rfl (lv_at hl 1 rfl) ?_
      refine r_get X hP 0 (wX3_g0_0 _ _ _) rfl inc_X3 3 (by decide) fl_X3_21 rfl dX3_bend_34 ?_
      refine lv_goto (tgt := 44) hx hb dX3_bend_37 (by decide) ?_
      refine lv_astore (lv' := [(5, .ref (a 1)), (4, .int x5), (0, .ref (a 0)), (1, .int p1), (2, .int z2), (3, .int z3)]) hx hb dX3_bend_44 hl (by decide) rfl (fun ls hl => ?_)
      refine lv_aload_n hx hb dX3_bend_46 rfl (lv_at hl 2 rfl) ?_
      refine lv_iload_n hx hb dX3_bend_47 rfl (lv_at hl 3 rfl) ?_
      obtain ⟨z40, hz40, hf⟩ := obd hf
      refine cV_allI X (As := [.int p1]) (rest := []) (c_X3_shiftOf l E a z1 p1 hz40) pv_X3_shiftOf ml_X3_62 ⟨rfl, rfl⟩ ⟨(Nat.le_of_ble_eq_true rfl), (Nat.le_of_ble_eq_true rfl)⟩ hP hD hS (wX3_g0_0 _ _ _) rfl (wX3_adr _ _ _ _) rfl hl.1 rfl (Nat.le_of_ble_eq_true rfl) dX3_bend_48 ⟨Nat.le_refl _, Nat.le_refl _⟩ (fun H locs hP hD hS => ?_)
      refine lv_istore (lv' := [(6, .int z40), (5, .ref (a 1)), (4, .int x5), (0, .ref (a 0)), (1, .int p1), (2, .int z2), (3, .int z3)]) hx hb dX3_bend_51 hl (by decide) rfl (fun ls hl => ?_)
      refine lv_iconst (v := 0) hx hb dX3_bend_53 (by decide) ?_
      refine lv_istore (lv' := [(7, .int 0), (6, .int z40), (5, .ref (a 1)), (4, .int x5), (0, .ref (a 0)), (1, .int p1), (2, .int z2), (3, .int z3)]) hx hb dX3_bend_54 hl (by decide) rfl (fun ls hl => ?_)
      have L43 := lc2_ind (o := out) (step := (s_X3_bend_56q p1 z2 z3 x5 z40)) (fun x41 g42 => ∀ (H : Heap) (locs : List Loc) (ls : Array Slot), va_P E.1 vwCl (wX3 E a g42) H → va_D A (wX3 E a g42) → va_S A s.heap H locs → lv_has ls 12 [(0, .ref (a 0)), (1, .int p1), (2, .int z2), (3, .int z3), (4, .int x5), (5, .ref (a 1)), (6, .int z40), (7, .int x41)] → W p l e rm_X3_bend s m ([.ref (a 0), .int p1] : List Value).toArray below meth c H locs 0 0 (MQ below (va_Qv (fun _ : Unit => True) (fun _ t => QW E (wX3 E a out) t) A) ([.ref (a 0), .int p1] : List Value).toArray s 0 0 A) (F0 m 56 ls [])) (fun x41 g42 k43 ih43 hf H locs ls hP hD hS hl => by
        refine lv_iload hx hb dX3_bend_56 (lv_at hl 7 rfl) ?_
        refine lv_aload_n hx hb dX3_bend_58 rfl (lv_at hl 0 rfl) ?_
        refine r_get X hP 0 (wX3_g0_0 _ _ _) rfl inc_X3 0 (by decide) fl_X3_9 rfl dX3_bend_59 ?_
        refine lv_icmp_ge (tgt := 257) hx hb dX3_bend_62 (by decide) (fun c44 => ?_) (fun c44 => ?_)
        · have hf := (if_pos c44).symm.trans hf
          exact J2 g42 hf H locs ls hP hD hS (lv_sub hl [0, 2, 3] rfl)
        · have hf := (if_neg c44).symm.trans hf
          refine lv_aload hx hb dX3_bend_65 (lv_at hl 5 rfl) ?_
          refine lv_iload hx hb dX3_bend_67 (lv_at hl 7 rfl) ?_
          obtain ⟨h45, hf⟩ := chk_in hf
          refine r_iald X hP 1 (wX3_g0_1 _ _ _) h45 dX3_bend_69 ?_
          refine lv_istore (lv' := [(8, .int (g42 1 (x41 : Int32).toNatClampNeg)), (0, .ref (a 0)), (1, .int p1), (2, .int z2), (3, .int z3), (4, .int x5), (5, .ref (a 1)), (6, .int z40), (7, .int x41)]) hx hb dX3_bend_70 hl (by decide) rfl (fun ls hl => ?_)
          refine lv_iconst (v := 2) hx hb dX3_bend_72 (by decide) ?_
          refine lv_iload_n hx hb dX3_bend_73 rfl (lv_at hl 4 rfl) ?_
          refine lv_imul hx hb dX3_bend_74 ?_
          refine lv_iconst (v := 1) hx hb dX3_bend_75 (by decide) ?_
          refine lv_isub hx hb dX3_bend_76 ?_
          refine lv_iload hx hb dX3_bend_77 (lv_at hl 0 rfl) ?_
          refine lv_isub hx hb dX3_bend_79 ?_
          refine lv_istore (lv' := [(9, .int (((2 * z3) - 1) - (g42 1 (x41 : Int32).toNatClampNeg))), (8, .int (g42 1 (x41 : Int32).toNatClampNeg)), (0, .ref (a 0)), (1, .int p1), (2, .int z2), (3, .int z3), (4, .int x5), (5, .ref (a 1)), (6, .int z40), (7, .int x41)]) hx hb dX3_bend_80 hl (by decide) rfl (fun ls hl => ?_)
          refine lv_iload_n hx hb dX3_bend_82 rfl (lv_at hl 4 rfl) ?_
          have J8 : ∀ (x46 : Int32), j_X3_bend_8 p1 z3 x5 z40 x41 g42 k43 x46 = some out → ∀ (H : Heap) (locs : List Loc) (ls : Array Slot), va_P E.1 vwCl (wX3 E a g42) H → va_D A (wX3 E a g42) → va_S A s.heap H locs → lv_has ls 12 [(0, .ref (a 0)), (1, .int p1), (2, .int z2), (3, .int z3), (4, .int x5), (5, .ref (a 1)), (6, .int z40), (7, .int x41), (8, .int (g42 1 (x41 : Int32).toNatClampNeg)), (9, .int (((2 * z3) - 1) - (g42 1 (x41 : Int32).toNatClampNeg)))] → W p l e rm_X3_bend s m ([.ref (a 0), .int p1] : List Value).toArray below meth c H locs 0 0 (MQ below (va_Qv (fun _ : Unit => True) (fun _ t => QW E (wX3 E a out) t) A) ([.ref (a 0), .int p1] : List Value).toArray s 0 0 A) (F0 m 115 ls [.int x46]) := by
            intro x46 hf H locs ls hP hD hS hl
            refine lv_istore (lv' := [(10, .int x46), (0, .ref (a 0)), (1, .int p1), (2, .int z2), (3, .int z3), (4, .int x5), (5, .ref (a 1)), (6, .int z40), (7, .int x41), (8, .int (g42 1 (x41 : Int32).toNatClampNeg)), (9, .int (((2 * z3) - 1) - (g42 1 (x41 : Int32).toNatClampNeg)))]) hx hb dX3_bend_115 hl (by decide) rfl (fun ls hl => ?_)
            refine lv_iload_n hx hb dX3_bend_117 rfl (lv_at hl 2 rfl) ?_
            obtain ⟨z47, hz47, hf⟩ := obd hf
            refine cS_roI X (As := [.int p1]) (rest := []) (c_X3_partOf l E p1 hz47) ps_X3_partOf ml_X3_68 ⟨rfl, rfl⟩ ⟨(Nat.le_of_ble_eq_true rfl), (Nat.le_of_ble_eq_true rfl)⟩ hP hD hS (is := []) (wc := []) rfl rfl rfl hl.1 rfl (Nat.le_of_ble_eq_true rfl) dX3_bend_118 ⟨Nat.le_refl _, Nat.le_refl _⟩ (fun H locs hP hS => ?_)
            have J9 : j_X3_bend_9 x5 z40 x41 g42 k43 x46 = some out → ∀ (H : Heap) (locs : List Loc) (ls : Array Slot), va_P E.1 vwCl (wX3 E a g42) H → va_D A (wX3 E a g42) → va_S A s.heap H locs → lv_has ls 12 [(0, .ref (a 0)), (1, .int p1), (2, .int z2), (3, .int z3), (4, .int x5), (5, .ref (a 1)), (6, .int z40), (7, .int x41), (8, .int (g42 1 (x41 : Int32).toNatClampNeg)), (10, .int x46)] → W p l e rm_X3_bend s m ([.ref (a 0), .int p1] : List Value).toArray below meth c H locs 0 0 (MQ below (va_Qv (fun _ : Unit => True) (fun _ t => QW E (wX3 E a out) t) A) ([.ref (a 0), .int p1] : List Value).toArray s 0 0 A) (F0 m 220 ls []) := by
              intro hf H locs ls hP hD hS hl
              refine lv_aload_n hx hb dX3_bend_220 rfl (lv_at hl 0 rfl) ?_
              refine r_get X hP 0 (wX3_g0_0 _ _ _) rfl inc_X3 5 (by decide) fl_X3_28 rfl dX3_bend_221 ?_
              refine lv_iload hx hb dX3_bend_224 (lv_at hl 7 rfl) ?_
              refine lv_dup2_11 hx hb dX3_bend_226 rfl rfl ?_
              obtain ⟨h48, hf⟩ := chk_in hf
              refine r_iald X hP 3 (wX3_g0_3 _ _ _) h48 dX3_bend_227 ?_
              refine lv_iload hx hb dX3_bend_228 (lv_at hl 4 rfl) ?_
              have J10 : ∀ (x49 : Int32), j_X3_bend_10 z40 x41 g42 k43 x49 = some out → ∀ (H : Heap) (locs : List Loc) (ls : Array Slot), va_P E.1 vwCl (wX3 E a g42) H → va_D A (wX3 E a g42) → va_S A s.heap H locs → lv_has ls 12 [(0, .ref (a 0)), (1, .int p1), (2, .int z2), (3, .int z3), (4, .int x5), (5, .ref (a 1)), (6, .int z40), (7, .int x41), (8, .int (g42 1 (x41 : Int32).toNatClampNeg))] → W p l e rm_X3_bend s m ([.ref (a 0), .int p1] : List Value).toArray below meth c H locs 0 0 (MQ below (va_Qv (fun _ : Unit => True) (fun _ t => QW E (wX3 E a out) t) A) ([.ref (a 0), .int p1] : List Value).toArray s 0 0 A) (F0 m 239 ls [.int x49, .int (g42 3 (x41 : Int32).toNatClampNeg), .int x41, .ref (a 3)]) := by
                intro x49 hf H locs ls hP hD hS hl
                refine lv_iadd hx hb dX3_bend_239 ?_
                obtain ⟨h50, hf⟩ := chk_in hf
                refine r_iast X hP hD hS 3 (wX3_g0_3 _ _ _) h50 (wX3_t0_3 _ _ _ _ _) dX3_bend_240 (fun H locs hP hD hS => ?_)
                refine lv_aload hx hb dX3_bend_241 (lv_at hl 5 rfl) ?_
                refine lv_iload hx hb dX3_bend_243 (lv_at hl 7 rfl) ?_
                refine lv_iload hx hb dX3_bend_245 (lv_at hl 8 rfl) ?_
                refine lv_iload hx hb dX3_bend_247 (lv_at hl 6 rfl) ?_
                refine lv_iadd hx hb dX3_bend_249 ?_
                obtain ⟨h51, hf⟩ := chk_in hf
                refine r_iast X hP hD hS 1 (wX3_g0_1 _ _ _) h51 (wX3_t0_1 _ _ _ _ _) dX3_bend_250 (fun H locs hP hD hS => ?_)
                refine lv_iinc (v := (x41 + 1)) (lv' := [(7, .int (x41 + 1)), (0, .ref (a 0)), (1, .int p1), (2, .int z2), (3, .int z3), (4, .int x5), (5, .ref (a 1)), (6, .int z40), (8, .int (g42 1 (x41 : Int32).toNatClampNeg))]) hx hb dX3_bend_251 hl (k := 7) rfl rfl (by decide) rfl (fun ls hl => ?_)
                refine lv_goto (tgt := 56) hx hb dX3_bend_254 (by decide) ?_
                exact ih43 (x41 + 1) (sg_st (sg_st g42 3 (x41 : Int32).toNatClampNeg ((g42 3 (x41 : Int32).toNatClampNeg) + x49)) 1 (x41 : Int32).toNatClampNeg ((g42 1 (x41 : Int32).toNatClampNeg) + z40)) hf H locs ls hP hD hS (lv_sub hl [1, 2, 3, 4, 5, 6, 7, 0] rfl)
              refine lv_if_eq (tgt := 237) hx hb dX3_bend_230 (by decide) (fun c52 => ?_) (fun c52 => ?_)
              · have hf := (if_pos c52).symm.trans hf
                refine lv_iload hx hb dX3_bend_237 (lv_at hl 9 rfl) ?_
                exact J10 x46 hf H locs ls hP hD hS (lv_sub hl [0, 1, 2, 3, 4, 5, 6, 7, 8] rfl)
              · have hf := (if_neg c52).symm.trans hf
                refine lv_iconst (v := 0) hx hb dX3_bend_233 (by decide) ?_
                refine lv_goto (tgt := 239) hx hb dX3_bend_234 (by decide) ?_
                exact J10 0 hf H locs ls hP hD hS (lv_sub hl [0, 1, 2, 3, 4, 5, 6, 7, 8] rfl)
            have J11 : j_X3_bend_11 z3 x5 z40 x41 g42 k43 x46 = some out → ∀ (H : Heap) (locs : List Loc) (ls : Array Slot), va_P E.1 vwCl (wX3 E a g42) H → va_D A (wX3 E a g42) → va_S A s.heap H locs → lv_has ls 12 [(0, .ref (a 0)), (1, .int p1), (2, .int z2), (3, .int z3), (4, .int x5), (5, .ref (a 1)), (6, .int z40), (7, .int x41), (9, .int (((2 * z3) - 1) - (g42 1 (x41 : Int32).toNatClampNeg))), (10, .int x46)] → W p l e rm_X3_bend s m ([.ref (a 0), .int p1] : List Value).toArray below meth c H locs 0 0 (MQ below (va_Qv (fun _ : Unit => True) (fun _ t => QW E (wX3 E a out) t) A) ([.ref (a 0), .int p1] : List Value).toArray s 0 0 A) (F0 m 139 ls []) := by
              intro hf H locs ls hP hD hS hl
              refine lv_aload_n hx hb dX3_bend_139 rfl (lv_at hl 0 rfl) ?_
              refine lv_aload_n hx hb dX3_bend_140 rfl (lv_at hl 0 rfl) ?_
              refine r_get X hP 0 (wX3_g0_0 _ _ _) rfl inc_X3 3 (by decide) fl_X3_21 rfl dX3_bend_141 ?_
              refine lv_iload hx hb dX3_bend_144 (lv_at hl 7 rfl) ?_
              obtain ⟨h53, hf⟩ := chk_in hf
              refine r_iald X hP 1 (wX3_g0_1 _ _ _) h53 dX3_bend_146 ?_
              refine lv_aload_n hx hb dX3_bend_147 rfl (lv_at hl 0 rfl) ?_
              refine r_get X hP 0 (wX3_g0_0 _ _ _) rfl inc_X3 4 (by decide) fl_X3_25 rfl dX3_bend_148 ?_
              refine lv_iload hx hb dX3_bend_151 (lv_at hl 7 rfl) ?_
              obtain ⟨h54, hf⟩ := chk_in hf
              refine r_iald X hP 2 (wX3_g0_2 _ _ _) h54 dX3_bend_153 ?_
              obtain ⟨z55, hz55, hf⟩ := obd hf
              refine cV_allI X (As := [.int (g42 1 (x41 : Int32).toNatClampNeg), .int (g42 2 (x41 : Int32).toNatClampNeg)]) (rest := []) (c_X3_heightAt l E a g42 (g42 1 (x41 : Int32).toNatClampNeg) (g42 2 (x41 : Int32).toNatClampNeg) hz55) pv_X3_heightAt ml_X3_65 ⟨rfl, rfl⟩ ⟨(Nat.le_of_ble_eq_true rfl), (Nat.le_of_ble_eq_true rfl)⟩ hP hD hS (wX3_g0_0 _ _ _) rfl (wX3_adr _ _ _ _) rfl hl.1 rfl (Nat.le_of_ble_eq_true rfl) dX3_bend_154 ⟨Nat.le_refl _, Nat.le_refl _⟩ (fun H locs hP hD hS => ?_)
              refine lv_iconst (v := 1) hx hb dX3_bend_157 (by decide) ?_
              refine lv_isub hx hb dX3_bend_158 ?_
              refine lv_aload_n hx hb dX3_bend_159 rfl (lv_at hl 0 rfl) ?_
              refine r_get X hP 0 (wX3_g0_0 _ _ _) rfl inc_X3 5 (by decide) fl_X3_28 rfl dX3_bend_160 ?_
              refine lv_iload hx hb dX3_bend_163 (lv_at hl 7 rfl) ?_
              obtain ⟨h56, hf⟩ := chk_in hf
              refine r_iald X hP 3 (wX3_g0_3 _ _ _) h56 dX3_bend_165 ?_
              refine lv_isub hx hb dX3_bend_166 ?_
              refine lv_istore (lv' := [(11, .int ((z55 - 1) - (g42 3 (x41 : Int32).toNatClampNeg))), (0, .ref (a 0)), (1, .int p1), (2, .int z2), (3, .int z3), (4, .int x5), (5, .ref (a 1)), (6, .int z40), (7, .int x41), (9, .int (((2 * z3) - 1) - (g42 1 (x41 : Int32).toNatClampNeg))), (10, .int x46)]) hx hb dX3_bend_167 hl (by decide) rfl (fun ls hl => ?_)
              refine lv_aload_n hx hb dX3_bend_169 rfl (lv_at hl 1 rfl) ?_
              refine r_get X hP 0 (wX3_g0_0 _ _ _) rfl inc_X3 5 (by decide) fl_X3_28 rfl dX3_bend_170 ?_
              refine lv_iload hx hb dX3_bend_173 (lv_at hl 8 rfl) ?_
              refine lv_iload hx hb dX3_bend_175 (lv_at hl 5 rfl) ?_
              have J12 : ∀ (x57 : Int32), j_X3_bend_12 z3 z40 x41 g42 k43 x57 = some out → ∀ (H : Heap) (locs : List Loc) (ls : Array Slot), va_P E.1 vwCl (wX3 E a g42) H → va_D A (wX3 E a g42) → va_S A s.heap H locs → lv_has ls 12 [(0, .ref (a 0)), (1, .int p1), (2, .int z2), (3, .int z3), (4, .int x5), (5, .ref (a 1)), (6, .int z40), (7, .int x41), (9, .int (((2 * z3) - 1) - (g42 1 (x41 : Int32).toNatClampNeg)))] → W p l e rm_X3_bend s m ([.ref (a 0), .int p1] : List Value).toArray below meth c H locs 0 0 (MQ below (va_Qv (fun _ : Unit => True) (fun _ t => QW E (wX3 E a out) t) A) ([.ref (a 0), .int p1] : List Value).toArray s 0 0 A) (F0 m 190 ls [.int x57, .int x41, .ref (a 3)]) := by
                intro x57 hf H locs ls hP hD hS hl
                obtain ⟨h58, hf⟩ := chk_in hf
                refine r_iast X hP hD hS 3 (wX3_g0_3 _ _ _) h58 (wX3_t0_3 _ _ _ _ _) dX3_bend_190 (fun H locs hP hD hS => ?_)
                refine lv_aload_n hx hb dX3_bend_191 rfl (lv_at hl 0 rfl) ?_
                refine r_get X hP 0 (wX3_g0_0 _ _ _) rfl inc_X3 6 (by decide) fl_X3_31 rfl dX3_bend_192 ?_
                refine lv_iload hx hb dX3_bend_195 (lv_at hl 7 rfl) ?_
                refine lv_iconst (v := 1) hx hb dX3_bend_197 (by decide) ?_
                refine lv_aload_n hx hb dX3_bend_198 rfl (lv_at hl 0 rfl) ?_
                refine r_get X hP 0 (wX3_g0_0 _ _ _) rfl inc_X3 6 (by decide) fl_X3_31 rfl dX3_bend_199 ?_
                refine lv_iload hx hb dX3_bend_202 (lv_at hl 7 rfl) ?_
                obtain ⟨h59, hf⟩ := chk_in hf
                refine r_iald X hP 4 (wX3_g0_4 _ _ _) h59 dX3_bend_204 ?_
                refine lv_isub hx hb dX3_bend_205 ?_
                obtain ⟨h60, hf⟩ := chk_in hf
                refine r_iast X hP hD hS 4 (wX3_g0_4 _ _ _) h60 (wX3_t0_4 _ _ _ _ _) dX3_bend_206 (fun H locs hP hD hS => ?_)
                refine lv_aload hx hb dX3_bend_207 (lv_at hl 5 rfl) ?_
                refine lv_iload hx hb dX3_bend_209 (lv_at hl 7 rfl) ?_
                refine lv_iload hx hb dX3_bend_211 (lv_at hl 8 rfl) ?_
                refine lv_iload hx hb dX3_bend_213 (lv_at hl 6 rfl) ?_
                refine lv_iadd hx hb dX3_bend_215 ?_
                obtain ⟨h61, hf⟩ := chk_in hf
                refine r_iast X hP hD hS 1 (wX3_g0_1 _ _ _) h61 (wX3_t0_1 _ _ _ _ _) dX3_bend_216 (fun H locs hP hD hS => ?_)
                refine lv_goto (tgt := 251) hx hb dX3_bend_217 (by decide) ?_
                refine lv_iinc (v := (x41 + 1)) (lv' := [(7, .int (x41 + 1)), (0, .ref (a 0)), (1, .int p1), (2, .int z2), (3, .int z3), (4, .int x5), (5, .ref (a 1)), (6, .int z40), (9, .int (((2 * z3) - 1) - (g42 1 (x41 : Int32).toNatClampNeg)))]) hx hb dX3_bend_251 hl (k := 7) rfl rfl (by decide) rfl (fun ls hl => ?_)
                refine lv_goto (tgt := 56) hx hb dX3_bend_254 (by decide) ?_
                exact ih43 (x41 + 1) (sg_st (sg_st (sg_st g42 3 (x41 : Int32).toNatClampNeg x57) 4 (x41 : Int32).toNatClampNeg (1 - ((sg_st g42 3 (x41 : Int32).toNatClampNeg x57) 4 (x41 : Int32).toNatClampNeg))) 1 (x41 : Int32).toNatClampNeg ((((2 * z3) - 1) - (g42 1 (x41 : Int32).toNatClampNeg)) + z40)) hf H locs ls hP hD hS (lv_sub hl [1, 2, 3, 4, 5, 6, 7, 0] rfl)
              refine lv_if_eq (tgt := 188) hx hb dX3_bend_177 (by decide) (fun c62 => ?_) (fun c62 => ?_)
              · have hf := (if_pos c62).symm.trans hf
                refine lv_iload hx hb dX3_bend_188 (lv_at hl 0 rfl) ?_
                exact J12 ((z55 - 1) - (g42 3 (x41 : Int32).toNatClampNeg)) hf H locs ls hP hD hS (lv_sub hl [1, 2, 3, 4, 5, 6, 7, 8, 9] rfl)
              · have hf := (if_neg c62).symm.trans hf
                refine lv_iload hx hb dX3_bend_180 (lv_at hl 10 rfl) ?_
                refine lv_iload hx hb dX3_bend_182 (lv_at hl 0 rfl) ?_
                refine lv_iadd hx hb dX3_bend_184 ?_
                refine lv_goto (tgt := 190) hx hb dX3_bend_185 (by decide) ?_
                exact J12 (x46 + ((z55 - 1) - (g42 3 (x41 : Int32).toNatClampNeg))) hf H locs ls hP hD hS (lv_sub hl [1, 2, 3, 4, 5, 6, 7, 8, 9] rfl)
            refine lv_if_ne (tgt := 133) hx hb dX3_bend_121 (by decide) (fun c63 => ?_) (fun c63 => ?_)
            · have hf := (if_neg c63).symm.trans hf
              refine lv_iload hx hb dX3_bend_133 (lv_at hl 9 rfl) ?_
              refine lv_iload_n hx hb dX3_bend_135 rfl (lv_at hl 4 rfl) ?_
              refine lv_icmp_lt (tgt := 220) hx hb dX3_bend_136 (by decide) (fun c64 => ?_) (fun c64 => ?_)
              · have hf := (if_pos c64).symm.trans hf
                exact J9 hf H locs ls hP hD hS (lv_sub hl [1, 2, 3, 4, 5, 6, 7, 8, 9, 0] rfl)
              · have hf := (if_neg c64).symm.trans hf
                exact J11 hf H locs ls hP hD hS (lv_sub hl [1, 2, 3, 4, 5, 6, 7, 8, 10, 0] rfl)
            · have hf := (if_pos c63).symm.trans hf
              refine lv_iload hx hb dX3_bend_124 (lv_at hl 9 rfl) ?_
              refine lv_iload_n hx hb dX3_bend_126 rfl (lv_at hl 4 rfl) ?_
              refine lv_icmp_ge (tgt := 220) hx hb dX3_bend_127 (by decide) (fun c65 => ?_) (fun c65 => ?_)
              · have hf := (if_pos c65).symm.trans hf
                exact J9 hf H locs ls hP hD hS (lv_sub hl [1, 2, 3, 4, 5, 6, 7, 8, 9, 0] rfl)
              · have hf := (if_neg c65).symm.trans hf
                refine lv_goto (tgt := 139) hx hb dX3_bend_130 (by decide) ?_
                exact J11 hf H locs ls hP hD hS (lv_sub hl [1, 2, 3, 4, 5, 6, 7, 8, 10, 0] rfl)
          refine lv_if_ne (tgt := 102) hx hb dX3_bend_83 (by decide) (fun c66 => ?_) (fun c66 => ?_)
          · have hf := (if_neg c66).symm.trans hf
            refine lv_aload_n hx hb dX3_bend_102 rfl (lv_at hl 2 rfl) ?_
            refine lv_aload_n hx hb dX3_bend_103 rfl (lv_at hl 2 rfl) ?_
            refine r_get X hP 0 (wX3_g0_0 _ _ _) rfl inc_X3 3 (by decide) fl_X3_21 rfl dX3_bend_104 ?_
            refine lv_iload hx hb dX3_bend_107 (lv_at hl 9 rfl) ?_
            obtain ⟨h67, hf⟩ := chk_in hf
            refine r_iald X hP 1 (wX3_g0_1 _ _ _) h67 dX3_bend_109 ?_
            refine lv_iload hx hb dX3_bend_110 (lv_at hl 0 rfl) ?_
            obtain ⟨z68, hz68, hf⟩ := obd hf
            refine cV_allI X (As := [.int (g42 1 (x41 : Int32).toNatClampNeg), .int (((2 * z3) - 1) - (g42 1 (x41 : Int32).toNatClampNeg))]) (rest := []) (c_X3_heightAt l E a g42 (g42 1 (x41 : Int32).toNatClampNeg) (((2 * z3) - 1) - (g42 1 (x41 : Int32).toNatClampNeg)) hz68) pv_X3_heightAt ml_X3_65 ⟨rfl, rfl⟩ ⟨(Nat.le_of_ble_eq_true rfl), (Nat.le_of_ble_eq_true rfl)⟩ hP hD hS (wX3_g0_0 _ _ _) rfl (wX3_adr _ _ _ _) rfl hl.1 rfl (Nat.le_of_ble_eq_true rfl) dX3_bend_112 ⟨Nat.le_refl _, Nat.le_refl _⟩ (fun H locs hP hD hS => ?_)
            exact J8 z68 hf H locs ls hP hD hS (lv_sub hl [2, 3, 4, 5, 6, 7, 8, 9, 1, 0] rfl)
          · have hf := (if_pos c66).symm.trans hf
            refine lv_aload_n hx hb dX3_bend_86 rfl (lv_at hl 2 rfl) ?_
            refine lv_iload hx hb dX3_bend_87 (lv_at hl 0 rfl) ?_
            refine lv_aload_n hx hb dX3_bend_89 rfl (lv_at hl 2 rfl) ?_
            refine r_get X hP 0 (wX3_g0_0 _ _ _) rfl inc_X3 4 (by decide) fl_X3_25 rfl dX3_bend_90 ?_
            refine lv_iload hx hb dX3_bend_93 (lv_at hl 9 rfl) ?_
            obtain ⟨h69, hf⟩ := chk_in hf
            refine r_iald X hP 2 (wX3_g0_2 _ _ _) h69 dX3_bend_95 ?_
            obtain ⟨z70, hz70, hf⟩ := obd hf
            refine cV_allI X (As := [.int (((2 * z3) - 1) - (g42 1 (x41 : Int32).toNatClampNeg)), .int (g42 2 (x41 : Int32).toNatClampNeg)]) (rest := []) (c_X3_heightAt l E a g42 (((2 * z3) - 1) - (g42 1 (x41 : Int32).toNatClampNeg)) (g42 2 (x41 : Int32).toNatClampNeg) hz70) pv_X3_heightAt ml_X3_65 ⟨rfl, rfl⟩ ⟨(Nat.le_of_ble_eq_true rfl), (Nat.le_of_ble_eq_true rfl)⟩ hP hD hS (wX3_g0_0 _ _ _) rfl (wX3_adr _ _ _ _) rfl hl.1 rfl (Nat.le_of_ble_eq_true rfl) dX3_bend_96 ⟨Nat.le_refl _, Nat.le_refl _⟩ (fun H locs hP hD hS => ?_)
            refine lv_goto (tgt := 115) hx hb dX3_bend_99 (by decide) ?_
            exact J8 z70 hf H locs ls hP hD hS (lv_sub hl [2, 3, 4, 5, 6, 7, 8, 9, 1, 0] rfl))
      exact L43 1000 0 z1 hf H locs ls hP hD hS (lv_sub hl [4, 5, 6, 7, 3, 2, 1, 0] rfl)
  refine lv_icmp_ne (tgt := 26) hx hb dX3_bend_19 (by decide) (fun c71 => ?_) (fun c71 => ?_)
  · have hf := (if_neg c71).symm.trans hf
    refine lv_iconst (v := 0) hx hb dX3_bend_26 (by decide) ?_
    exact J1 0 hf H locs ls hP hD hS (lv_sub hl [2, 3, 1, 0] rfl)
  · have hf := (if_pos c71).symm.trans hf
    refine lv_iconst (v := 1) hx hb dX3_bend_22 (by decide) ?_
    refine lv_goto (tgt := 27) hx hb dX3_bend_23 (by decide) ?_
    exact J1 1 hf H locs ls hP hD hS (lv_sub hl [2, 3, 1, 0] rfl)
def rm_X3_canBend : Room := { frames := 1, cells := 0, slots := 0, locals := 20 }
theorem pv_X3_canBend : PkV RX3 yX3_canBend cX3_canBend 3 (some .boolean) 1 := ⟨im_X3_canBend, se_X3_canBend, ini_X3, cd_X3_canBend, by decide +kernel⟩
set_option maxHeartbeats 4000000 in
set_option maxRecDepth 100000 in
theorem c_X3_canBend (l : Launch) (E : Ev) (a : Nat → Nat) (σ : Sg) (p1 : Int32) {out : Int32} (hf : f_X3_canBend σ p1 = some out) : MtI l yX3_canBend (wl yX3_canBend cX3_canBend 3 (some .boolean)) rm_X3_canBend E [.ref (a 0), .int p1] (wX3 E a σ) out (wX3 E a σ) := by
  refine mt_of (QQ := (fun A => va_Qi (fun x (_ : Unit) => x = out) (fun _ t => QW E (wX3 E a σ) t) A)) (by decide) (Nat.le_of_ble_eq_true rfl) (fun p e s m below meth c A ls X hr hP hD hS hl => ?_)
  have hx := X.1.1
  have hb := X.1.2.1
  have hl : lv_has ls 3 [(0, .ref (a 0)), (1, .int p1)] := hl
  obtain ⟨H, hHe⟩ : ∃ H : Heap, H = s.heap := ⟨_, rfl⟩
  obtain ⟨locs, hLe⟩ : ∃ locs : List Loc, locs = [] := ⟨_, rfl⟩
  have hP : va_P E.1 vwCl (wX3 E a σ) H := by rw [hHe]; exact hP
  have hS : va_S A s.heap H locs := by rw [hHe, hLe]; exact hS
  rw [← hLe, show W p l e rm_X3_canBend s m ([.ref (a 0), .int p1] : List Value).toArray below meth c s.heap locs 0 0 = W p l e rm_X3_canBend s m ([.ref (a 0), .int p1] : List Value).toArray below meth c H locs 0 0 from by rw [hHe]]
  refine lv_iload_n hx hb dX3_canBend_0 rfl (lv_at hl 1 rfl) ?_
  obtain ⟨z1, hz1, hf⟩ := obd hf
  refine cS_roI X (As := [.int p1]) (rest := []) (c_X3_axisOf l E p1 hz1) ps_X3_axisOf ml_X3_49 ⟨rfl, rfl⟩ ⟨(Nat.le_of_ble_eq_true rfl), (Nat.le_of_ble_eq_true rfl)⟩ hP hD hS (is := []) (wc := []) rfl rfl rfl hl.1 rfl (Nat.le_of_ble_eq_true rfl) dX3_canBend_1 ⟨Nat.le_refl _, Nat.le_refl _⟩ (fun H locs hP hS => ?_)
  have J1 : ∀ (x2 : Int32), j_X3_canBend_1 p1 x2 = some out → ∀ (H : Heap) (locs : List Loc) (ls : Array Slot), va_P E.1 vwCl (wX3 E a σ) H → va_D A (wX3 E a σ) → va_S A s.heap H locs → lv_has ls 3 [(1, .int p1)] → W p l e rm_X3_canBend s m ([.ref (a 0), .int p1] : List Value).toArray below meth c H locs 0 0 (MQ below (va_Qi (fun x (_ : Unit) => x = out) (fun _ t => QW E (wX3 E a σ) t) A) ([.ref (a 0), .int p1] : List Value).toArray s 0 0 A) (F0 m 18 ls [.int x2]) := by
    intro x2 hf H locs ls hP hD hS hl
    refine lv_istore_n (lv' := [(2, .int x2), (1, .int p1)]) hx hb dX3_canBend_18 rfl hl (by decide) rfl (fun ls hl => ?_)
    refine lv_iload_n hx hb dX3_canBend_19 rfl (lv_at hl 1 rfl) ?_
    refine lv_if_lt (tgt := 35) hx hb dX3_canBend_20 (by decide) (fun c3 => ?_) (fun c3 => ?_)
    · have hf := (if_pos c3).symm.trans hf
      refine lv_iconst (v := 0) hx hb dX3_canBend_35 (by decide) ?_
      have ho := Option.some.inj hf
      exact r_zret X hr hP hS rfl ho rfl dX3_canBend_36
    · have hf := (if_neg c3).symm.trans hf
      refine lv_iload_n hx hb dX3_canBend_23 rfl (lv_at hl 1 rfl) ?_
      obtain ⟨z4, hz4, hf⟩ := obd hf
      refine cS_roI X (As := [.int p1]) (rest := []) (c_X3_lineOf l E p1 hz4) ps_X3_lineOf ml_X3_53 ⟨rfl, rfl⟩ ⟨(Nat.le_of_ble_eq_true rfl), (Nat.le_of_ble_eq_true rfl)⟩ hP hD hS (is := []) (wc := []) rfl rfl rfl hl.1 rfl (Nat.le_of_ble_eq_true rfl) dX3_canBend_24 ⟨Nat.le_refl _, Nat.le_refl _⟩ (fun H locs hP hS => ?_)
      refine lv_iload_n hx hb dX3_canBend_27 rfl (lv_at hl 0 rfl) ?_
      refine lv_icmp_ge (tgt := 35) hx hb dX3_canBend_28 (by decide) (fun c5 => ?_) (fun c5 => ?_)
      · have hf := (if_pos c5).symm.trans hf
        refine lv_iconst (v := 0) hx hb dX3_canBend_35 (by decide) ?_
        have ho := Option.some.inj hf
        exact r_zret X hr hP hS rfl ho rfl dX3_canBend_36
      · have hf := (if_neg c5).symm.trans hf
        refine lv_iconst (v := 1) hx hb dX3_canBend_31 (by decide) ?_
        refine lv_goto (tgt := 36) hx hb dX3_canBend_32 (by decide) ?_
        have ho := Option.some.inj hf
        exact r_zret X hr hP hS rfl ho rfl dX3_canBend_36
  refine lv_if_ne (tgt := 14) hx hb dX3_canBend_4 (by decide) (fun c6 => ?_) (fun c6 => ?_)
  · have hf := (if_neg c6).symm.trans hf
    refine lv_aload_n hx hb dX3_canBend_14 rfl (lv_at hl 0 rfl) ?_
    refine r_get X hP 0 (wX3_g0_0 _ _ _) rfl inc_X3 2 (by decide) fl_X3_18 rfl dX3_canBend_15 ?_
    exact J1 (σ 0 2) hf H locs ls hP hD hS (lv_sub hl [1] rfl)
  · have hf := (if_pos c6).symm.trans hf
    refine lv_aload_n hx hb dX3_canBend_7 rfl (lv_at hl 0 rfl) ?_
    refine r_get X hP 0 (wX3_g0_0 _ _ _) rfl inc_X3 1 (by decide) fl_X3_15 rfl dX3_canBend_8 ?_
    refine lv_goto (tgt := 18) hx hb dX3_canBend_11 (by decide) ?_
    exact J1 (σ 0 1) hf H locs ls hP hD hS (lv_sub hl [1] rfl)
def rm_X3_copyFrom : Room := { frames := 1, cells := 0, slots := 0, locals := 40 }
theorem pv_X3_copyFrom : PkV RX3 yX3_copyFrom cX3_copyFrom 2 none 1 := ⟨im_X3_copyFrom, se_X3_copyFrom, ini_X3, cd_X3_copyFrom, by decide +kernel⟩
set_option maxHeartbeats 4000000 in
set_option maxRecDepth 100000 in
theorem c_X3_copyFrom (l : Launch) (E : Ev) (a : Nat → Nat) (σ : Sg) (b : Nat → Nat) (τ : Sg) {out : Sg} (hf : f_X3_copyFrom σ τ = some out) : MtV l yX3_copyFrom (wl yX3_copyFrom cX3_copyFrom 2 none) rm_X3_copyFrom E [.ref (a 0), .ref (b 0)] (wX3X3 E a σ b τ) (wX3X3 E a out b τ) := by
  refine mt_of (QQ := (fun A => va_Qv (fun _ : Unit => True) (fun _ t => QW E (wX3X3 E a out b τ) t) A)) (by decide) (Nat.le_of_ble_eq_true rfl) (fun p e s m below meth c A ls X hr hP hD hS hl => ?_)
  have hx := X.1.1
  have hb := X.1.2.1
  have hl : lv_has ls 2 [(0, .ref (a 0)), (1, .ref (b 0))] := hl
  obtain ⟨H, hHe⟩ : ∃ H : Heap, H = s.heap := ⟨_, rfl⟩
  obtain ⟨locs, hLe⟩ : ∃ locs : List Loc, locs = [] := ⟨_, rfl⟩
  have hP : va_P E.1 vwCl (wX3X3 E a σ b τ) H := by rw [hHe]; exact hP
  have hS : va_S A s.heap H locs := by rw [hHe, hLe]; exact hS
  rw [← hLe, show W p l e rm_X3_copyFrom s m ([.ref (a 0), .ref (b 0)] : List Value).toArray below meth c s.heap locs 0 0 = W p l e rm_X3_copyFrom s m ([.ref (a 0), .ref (b 0)] : List Value).toArray below meth c H locs 0 0 from by rw [hHe]]
  refine lv_aload_n hx hb dX3_copyFrom_0 rfl (lv_at hl 0 rfl) ?_
  refine lv_aload_n hx hb dX3_copyFrom_1 rfl (lv_at hl 1 rfl) ?_
  refine r_get X hP 6 (wX3X3_g1_0 _ _ _ _ _) rfl inc_X3 0 (by decide) fl_X3_9 rfl dX3_copyFrom_2 ?_
  refine r_put X hP hD hS 0 (wX3X3_g0_0 _ _ _ _ _) rfl inc_X3 tyX3 tyX3_ok nmX3 0 (by decide) fl_X3_9 rfl (ty := .int) rfl rfl rfl (Nat.le_of_ble_eq_true rfl) (wX3X3_s0_0_0 _ _ _ _ _ _) dX3_copyFrom_5 (fun H locs hP hD hS => ?_)
  refine lv_aload_n hx hb dX3_copyFrom_8 rfl (lv_at hl 0 rfl) ?_
  refine lv_aload_n hx hb dX3_copyFrom_9 rfl (lv_at hl 1 rfl) ?_
  refine r_get X hP 6 (wX3X3_g1_0 _ _ _ _ _) rfl inc_X3 1 (by decide) fl_X3_15 rfl dX3_copyFrom_10 ?_
  refine r_put X hP hD hS 0 (wX3X3_g0_0 _ _ _ _ _) rfl inc_X3 tyX3 tyX3_ok nmX3 1 (by decide) fl_X3_15 rfl (ty := .int) rfl rfl rfl (Nat.le_of_ble_eq_true rfl) (wX3X3_s0_0_1 _ _ _ _ _ _) dX3_copyFrom_13 (fun H locs hP hD hS => ?_)
  refine lv_aload_n hx hb dX3_copyFrom_16 rfl (lv_at hl 0 rfl) ?_
  refine lv_aload_n hx hb dX3_copyFrom_17 rfl (lv_at hl 1 rfl) ?_
  refine r_get X hP 6 (wX3X3_g1_0 _ _ _ _ _) rfl inc_X3 2 (by decide) fl_X3_18 rfl dX3_copyFrom_18 ?_
  refine r_put X hP hD hS 0 (wX3X3_g0_0 _ _ _ _ _) rfl inc_X3 tyX3 tyX3_ok nmX3 2 (by decide) fl_X3_18 rfl (ty := .int) rfl rfl rfl (Nat.le_of_ble_eq_true rfl) (wX3X3_s0_0_2 _ _ _ _ _ _) dX3_copyFrom_21 (fun H locs hP hD hS => ?_)
  refine lv_aload_n hx hb dX3_copyFrom_24 rfl (lv_at hl 1 rfl) ?_
  refine r_get X hP 6 (wX3X3_g1_0 _ _ _ _ _) rfl inc_X3 3 (by decide) fl_X3_21 rfl dX3_copyFrom_25 ?_
  refine lv_iconst (v := 0) hx hb dX3_copyFrom_28 (by decide) ?_
  refine lv_aload_n hx hb dX3_copyFrom_29 rfl (lv_at hl 0 rfl) ?_
  refine r_get X hP 0 (wX3X3_g0_0 _ _ _ _ _) rfl inc_X3 3 (by decide) fl_X3_21 rfl dX3_copyFrom_30 ?_
  refine lv_iconst (v := 0) hx hb dX3_copyFrom_33 (by decide) ?_
  refine lv_aload_n hx hb dX3_copyFrom_34 rfl (lv_at hl 0 rfl) ?_
  refine r_get X hP 0 (wX3X3_g0_0 _ _ _ _ _) rfl inc_X3 0 (by decide) fl_X3_9 rfl dX3_copyFrom_35 ?_
  obtain ⟨h1, hf⟩ := ccp_in hf
  refine r_copy X hl.1 hP hD hS ml_X3_43 nv_arraycopy sm_arraycopy ini_J10 7 1 (wX3X3_g1_1 _ _ _ _ _) (wX3X3_g0_1 _ _ _ _ _) h1 (Nat.le_of_ble_eq_true rfl) (Nat.le_of_ble_eq_true rfl) (wX3X3_r0_1 _ _ _ _ _ _) dX3_copyFrom_38 (fun H locs hP hD hS => ?_)
  refine lv_aload_n hx hb dX3_copyFrom_41 rfl (lv_at hl 1 rfl) ?_
  refine r_get X hP 6 (wX3X3_g1_0 _ _ _ _ _) rfl inc_X3 4 (by decide) fl_X3_25 rfl dX3_copyFrom_42 ?_
  refine lv_iconst (v := 0) hx hb dX3_copyFrom_45 (by decide) ?_
  refine lv_aload_n hx hb dX3_copyFrom_46 rfl (lv_at hl 0 rfl) ?_
  refine r_get X hP 0 (wX3X3_g0_0 _ _ _ _ _) rfl inc_X3 4 (by decide) fl_X3_25 rfl dX3_copyFrom_47 ?_
  refine lv_iconst (v := 0) hx hb dX3_copyFrom_50 (by decide) ?_
  refine lv_aload_n hx hb dX3_copyFrom_51 rfl (lv_at hl 0 rfl) ?_
  refine r_get X hP 0 (wX3X3_g0_0 _ _ _ _ _) rfl inc_X3 0 (by decide) fl_X3_9 rfl dX3_copyFrom_52 ?_
  obtain ⟨h2, hf⟩ := ccp_in hf
  refine r_copy X hl.1 hP hD hS ml_X3_43 nv_arraycopy sm_arraycopy ini_J10 8 2 (wX3X3_g1_2 _ _ _ _ _) (wX3X3_g0_2 _ _ _ _ _) h2 (Nat.le_of_ble_eq_true rfl) (Nat.le_of_ble_eq_true rfl) (wX3X3_r0_2 _ _ _ _ _ _) dX3_copyFrom_55 (fun H locs hP hD hS => ?_)
  refine lv_aload_n hx hb dX3_copyFrom_58 rfl (lv_at hl 1 rfl) ?_
  refine r_get X hP 6 (wX3X3_g1_0 _ _ _ _ _) rfl inc_X3 5 (by decide) fl_X3_28 rfl dX3_copyFrom_59 ?_
  refine lv_iconst (v := 0) hx hb dX3_copyFrom_62 (by decide) ?_
  refine lv_aload_n hx hb dX3_copyFrom_63 rfl (lv_at hl 0 rfl) ?_
  refine r_get X hP 0 (wX3X3_g0_0 _ _ _ _ _) rfl inc_X3 5 (by decide) fl_X3_28 rfl dX3_copyFrom_64 ?_
  refine lv_iconst (v := 0) hx hb dX3_copyFrom_67 (by decide) ?_
  refine lv_aload_n hx hb dX3_copyFrom_68 rfl (lv_at hl 0 rfl) ?_
  refine r_get X hP 0 (wX3X3_g0_0 _ _ _ _ _) rfl inc_X3 0 (by decide) fl_X3_9 rfl dX3_copyFrom_69 ?_
  obtain ⟨h3, hf⟩ := ccp_in hf
  refine r_copy X hl.1 hP hD hS ml_X3_43 nv_arraycopy sm_arraycopy ini_J10 9 3 (wX3X3_g1_3 _ _ _ _ _) (wX3X3_g0_3 _ _ _ _ _) h3 (Nat.le_of_ble_eq_true rfl) (Nat.le_of_ble_eq_true rfl) (wX3X3_r0_3 _ _ _ _ _ _) dX3_copyFrom_72 (fun H locs hP hD hS => ?_)
  refine lv_aload_n hx hb dX3_copyFrom_75 rfl (lv_at hl 1 rfl) ?_
  refine r_get X hP 6 (wX3X3_g1_0 _ _ _ _ _) rfl inc_X3 6 (by decide) fl_X3_31 rfl dX3_copyFrom_76 ?_
  refine lv_iconst (v := 0) hx hb dX3_copyFrom_79 (by decide) ?_
  refine lv_aload_n hx hb dX3_copyFrom_80 rfl (lv_at hl 0 rfl) ?_
  refine r_get X hP 0 (wX3X3_g0_0 _ _ _ _ _) rfl inc_X3 6 (by decide) fl_X3_31 rfl dX3_copyFrom_81 ?_
  refine lv_iconst (v := 0) hx hb dX3_copyFrom_84 (by decide) ?_
  refine lv_aload_n hx hb dX3_copyFrom_85 rfl (lv_at hl 0 rfl) ?_
  refine r_get X hP 0 (wX3X3_g0_0 _ _ _ _ _) rfl inc_X3 0 (by decide) fl_X3_9 rfl dX3_copyFrom_86 ?_
  obtain ⟨h4, hf⟩ := ccp_in hf
  refine r_copy X hl.1 hP hD hS ml_X3_43 nv_arraycopy sm_arraycopy ini_J10 10 4 (wX3X3_g1_4 _ _ _ _ _) (wX3X3_g0_4 _ _ _ _ _) h4 (Nat.le_of_ble_eq_true rfl) (Nat.le_of_ble_eq_true rfl) (wX3X3_r0_4 _ _ _ _ _ _) dX3_copyFrom_89 (fun H locs hP hD hS => ?_)
  have ho := Option.some.inj hf
  have hw := congrArg (fun o : Sg => (wX3X3 E a o b τ)) ho
  exact r_vret X hr hP hS hw dX3_copyFrom_92
def rm_X3_countFought : Room := { frames := 2, cells := 0, slots := 0, locals := 44 }
theorem pv_X3_countFought : PkV RX3 yX3_countFought cX3_countFought 4 (some .int) 1 := ⟨im_X3_countFought, se_X3_countFought, ini_X3, cd_X3_countFought, by decide +kernel⟩
set_option maxHeartbeats 4000000 in
set_option maxRecDepth 100000 in
theorem c_X3_countFought (l : Launch) (E : Ev) (a : Nat → Nat) (σ : Sg) (b : Nat → Nat) (τ : Sg) {out : Int32} (hf : f_X3_countFought σ τ = some out) : MtI l yX3_countFought (wl yX3_countFought cX3_countFought 4 (some .int)) rm_X3_countFought E [.ref (a 0), .ref (b 0)] (wX3X4 E a σ b τ) out (wX3X4 E a σ b τ) := by
  refine mt_of (QQ := (fun A => va_Qi (fun x (_ : Unit) => x = out) (fun _ t => QW E (wX3X4 E a σ b τ) t) A)) (by decide) (Nat.le_of_ble_eq_true rfl) (fun p e s m below meth c A ls X hr hP hD hS hl => ?_)
  have hx := X.1.1
  have hb := X.1.2.1
  have hl : lv_has ls 4 [(0, .ref (a 0)), (1, .ref (b 0))] := hl
  obtain ⟨H, hHe⟩ : ∃ H : Heap, H = s.heap := ⟨_, rfl⟩
  obtain ⟨locs, hLe⟩ : ∃ locs : List Loc, locs = [] := ⟨_, rfl⟩
  have hP : va_P E.1 vwCl (wX3X4 E a σ b τ) H := by rw [hHe]; exact hP
  have hS : va_S A s.heap H locs := by rw [hHe, hLe]; exact hS
  rw [← hLe, show W p l e rm_X3_countFought s m ([.ref (a 0), .ref (b 0)] : List Value).toArray below meth c s.heap locs 0 0 = W p l e rm_X3_countFought s m ([.ref (a 0), .ref (b 0)] : List Value).toArray below meth c H locs 0 0 from by rw [hHe]]
  refine lv_iconst (v := 0) hx hb dX3_countFought_0 (by decide) ?_
  refine lv_istore_n (lv' := [(2, .int 0), (0, .ref (a 0)), (1, .ref (b 0))]) hx hb dX3_countFought_1 rfl hl (by decide) rfl (fun ls hl => ?_)
  refine lv_iconst (v := 0) hx hb dX3_countFought_2 (by decide) ?_
  refine lv_istore_n (lv' := [(3, .int 0), (2, .int 0), (0, .ref (a 0)), (1, .ref (b 0))]) hx hb dX3_countFought_3 rfl hl (by decide) rfl (fun ls hl => ?_)
  have L3 := lc2_ind (o := out) (step := (s_X3_countFought_4 σ τ)) (fun x1 x2 => ∀ (H : Heap) (locs : List Loc) (ls : Array Slot), va_P E.1 vwCl (wX3X4 E a σ b τ) H → va_D A (wX3X4 E a σ b τ) → va_S A s.heap H locs → lv_has ls 4 [(0, .ref (a 0)), (1, .ref (b 0)), (2, .int x1), (3, .int x2)] → W p l e rm_X3_countFought s m ([.ref (a 0), .ref (b 0)] : List Value).toArray below meth c H locs 0 0 (MQ below (va_Qi (fun x (_ : Unit) => x = out) (fun _ t => QW E (wX3X4 E a σ b τ) t) A) ([.ref (a 0), .ref (b 0)] : List Value).toArray s 0 0 A) (F0 m 4 ls [])) (fun x1 x2 k3 ih3 hf H locs ls hP hD hS hl => by
    refine lv_iload_n hx hb dX3_countFought_4 rfl (lv_at hl 3 rfl) ?_
    refine lv_aload_n hx hb dX3_countFought_5 rfl (lv_at hl 1 rfl) ?_
    refine r_get X hP 6 (wX3X4_g1_0 _ _ _ _ _) rfl inc_X4 0 (by decide) fl_X3_88 rfl dX3_countFought_6 ?_
    refine lv_icmp_ge (tgt := 41) hx hb dX3_countFought_9 (by decide) (fun c4 => ?_) (fun c4 => ?_)
    · have hf := (if_pos c4).symm.trans hf
      refine lv_iload_n hx hb dX3_countFought_41 rfl (lv_at hl 2 rfl) ?_
      have ho := Option.some.inj hf
      exact r_iret X hr hP hS ho rfl dX3_countFought_42
    · have hf := (if_neg c4).symm.trans hf
      refine lv_aload_n hx hb dX3_countFought_12 rfl (lv_at hl 0 rfl) ?_
      refine lv_aload_n hx hb dX3_countFought_13 rfl (lv_at hl 1 rfl) ?_
      refine r_get X hP 6 (wX3X4_g1_0 _ _ _ _ _) rfl inc_X4 1 (by decide) fl_X3_93 rfl dX3_countFought_14 ?_
      refine lv_iload_n hx hb dX3_countFought_17 rfl (lv_at hl 3 rfl) ?_
      obtain ⟨h5, hf⟩ := chk_in hf
      refine r_iald X hP 7 (wX3X4_g1_1 _ _ _ _ _) h5 dX3_countFought_18 ?_
      refine lv_aload_n hx hb dX3_countFought_19 rfl (lv_at hl 1 rfl) ?_
      refine r_get X hP 6 (wX3X4_g1_0 _ _ _ _ _) rfl inc_X4 2 (by decide) fl_X3_96 rfl dX3_countFought_20 ?_
      refine lv_iload_n hx hb dX3_countFought_23 rfl (lv_at hl 3 rfl) ?_
      obtain ⟨h6, hf⟩ := chk_in hf
      refine r_iald X hP 8 (wX3X4_g1_2 _ _ _ _ _) h6 dX3_countFought_24 ?_
      obtain ⟨z7, hz7, hf⟩ := obd hf
      refine cV_roI X (As := [.int (τ 1 (x2 : Int32).toNatClampNeg), .int (τ 2 (x2 : Int32).toNatClampNeg)]) (rest := []) (c_X3_touching l E a σ (τ 1 (x2 : Int32).toNatClampNeg) (τ 2 (x2 : Int32).toNatClampNeg) hz7) pv_X3_touching ml_X3_85 ⟨rfl, rfl⟩ ⟨(Nat.le_of_ble_eq_true rfl), (Nat.le_of_ble_eq_true rfl)⟩ hP hD hS (wX3X4_b_0_0_X3 _ _ _ _ _) rfl (wX3_g0_0 _ _ _) rfl rfl hl.1 rfl (Nat.le_of_ble_eq_true rfl) dX3_countFought_25 ⟨Nat.le_refl _, Nat.le_refl _⟩ (fun H locs hP hS => ?_)
      refine lv_iconst (v := 1) hx hb dX3_countFought_28 (by decide) ?_
      refine lv_icmp_ne (tgt := 35) hx hb dX3_countFought_29 (by decide) (fun c8 => ?_) (fun c8 => ?_)
      · have hf := (if_neg c8).symm.trans hf
        refine lv_iinc (v := (x2 + 1)) (lv' := [(3, .int (x2 + 1)), (0, .ref (a 0)), (1, .ref (b 0)), (2, .int x1)]) hx hb dX3_countFought_35 hl (k := 3) rfl rfl (by decide) rfl (fun ls hl => ?_)
        refine lv_goto (tgt := 4) hx hb dX3_countFought_38 (by decide) ?_
        exact ih3 x1 (x2 + 1) hf H locs ls hP hD hS (lv_sub hl [1, 2, 3, 0] rfl)
      · have hf := (if_pos c8).symm.trans hf
        refine lv_iinc (v := (x1 + 1)) (lv' := [(2, .int (x1 + 1)), (0, .ref (a 0)), (1, .ref (b 0)), (3, .int x2)]) hx hb dX3_countFought_32 hl (k := 2) rfl rfl (by decide) rfl (fun ls hl => ?_)
        refine lv_iinc (v := (x2 + 1)) (lv' := [(3, .int (x2 + 1)), (2, .int (x1 + 1)), (0, .ref (a 0)), (1, .ref (b 0))]) hx hb dX3_countFought_35 hl (k := 3) rfl rfl (by decide) rfl (fun ls hl => ?_)
        refine lv_goto (tgt := 4) hx hb dX3_countFought_38 (by decide) ?_
        exact ih3 (x1 + 1) (x2 + 1) hf H locs ls hP hD hS (lv_sub hl [2, 3, 1, 0] rfl))
  exact L3 1000 0 0 hf H locs ls hP hD hS (lv_sub hl [2, 3, 1, 0] rfl)
def rm_X3_countFrontPairs : Room := { frames := 2, cells := 0, slots := 0, locals := 44 }
theorem pv_X3_countFrontPairs : PkV RX3 yX3_countFrontPairs cX3_countFrontPairs 4 (some .int) 0 := ⟨im_X3_countFrontPairs, se_X3_countFrontPairs, ini_X3, cd_X3_countFrontPairs, by decide +kernel⟩
set_option maxHeartbeats 4000000 in
set_option maxRecDepth 100000 in
theorem c_X3_countFrontPairs (l : Launch) (E : Ev) (a : Nat → Nat) (σ : Sg) {out : Int32} (hf : f_X3_countFrontPairs σ = some out) : MtI l yX3_countFrontPairs (wl yX3_countFrontPairs cX3_countFrontPairs 4 (some .int)) rm_X3_countFrontPairs E [.ref (a 0)] (wX3 E a σ) out (wX3 E a σ) := by
  refine mt_of (QQ := (fun A => va_Qi (fun x (_ : Unit) => x = out) (fun _ t => QW E (wX3 E a σ) t) A)) (by decide) (Nat.le_of_ble_eq_true rfl) (fun p e s m below meth c A ls X hr hP hD hS hl => ?_)
  have hx := X.1.1
  have hb := X.1.2.1
  have hl : lv_has ls 4 [(0, .ref (a 0))] := hl
  obtain ⟨H, hHe⟩ : ∃ H : Heap, H = s.heap := ⟨_, rfl⟩
  obtain ⟨locs, hLe⟩ : ∃ locs : List Loc, locs = [] := ⟨_, rfl⟩
  have hP : va_P E.1 vwCl (wX3 E a σ) H := by rw [hHe]; exact hP
  have hS : va_S A s.heap H locs := by rw [hHe, hLe]; exact hS
  rw [← hLe, show W p l e rm_X3_countFrontPairs s m ([.ref (a 0)] : List Value).toArray below meth c s.heap locs 0 0 = W p l e rm_X3_countFrontPairs s m ([.ref (a 0)] : List Value).toArray below meth c H locs 0 0 from by rw [hHe]]
  refine lv_iconst (v := 0) hx hb dX3_countFrontPairs_0 (by decide) ?_
  refine lv_istore_n (lv' := [(1, .int 0), (0, .ref (a 0))]) hx hb dX3_countFrontPairs_1 rfl hl (by decide) rfl (fun ls hl => ?_)
  refine lv_iconst (v := 0) hx hb dX3_countFrontPairs_2 (by decide) ?_
  refine lv_istore_n (lv' := [(2, .int 0), (1, .int 0), (0, .ref (a 0))]) hx hb dX3_countFrontPairs_3 rfl hl (by decide) rfl (fun ls hl => ?_)
  have L3 := lc2_ind (o := out) (step := (s_X3_countFrontPairs_4 σ)) (fun x1 x2 => ∀ (H : Heap) (locs : List Loc) (ls : Array Slot), va_P E.1 vwCl (wX3 E a σ) H → va_D A (wX3 E a σ) → va_S A s.heap H locs → lv_has ls 4 [(0, .ref (a 0)), (1, .int x1), (2, .int x2)] → W p l e rm_X3_countFrontPairs s m ([.ref (a 0)] : List Value).toArray below meth c H locs 0 0 (MQ below (va_Qi (fun x (_ : Unit) => x = out) (fun _ t => QW E (wX3 E a σ) t) A) ([.ref (a 0)] : List Value).toArray s 0 0 A) (F0 m 4 ls [])) (fun x1 x2 k3 ih3 hf H locs ls hP hD hS hl => by
    refine lv_iload_n hx hb dX3_countFrontPairs_4 rfl (lv_at hl 2 rfl) ?_
    refine lv_aload_n hx hb dX3_countFrontPairs_5 rfl (lv_at hl 0 rfl) ?_
    refine r_get X hP 0 (wX3_g0_0 _ _ _) rfl inc_X3 0 (by decide) fl_X3_9 rfl dX3_countFrontPairs_6 ?_
    refine lv_icmp_ge (tgt := 49) hx hb dX3_countFrontPairs_9 (by decide) (fun c4 => ?_) (fun c4 => ?_)
    · have hf := (if_pos c4).symm.trans hf
      refine lv_iload_n hx hb dX3_countFrontPairs_49 rfl (lv_at hl 1 rfl) ?_
      have ho := Option.some.inj hf
      exact r_iret X hr hP hS ho rfl dX3_countFrontPairs_50
    · have hf := (if_neg c4).symm.trans hf
      refine lv_iload_n hx hb dX3_countFrontPairs_12 rfl (lv_at hl 2 rfl) ?_
      refine lv_iconst (v := 1) hx hb dX3_countFrontPairs_13 (by decide) ?_
      refine lv_iadd hx hb dX3_countFrontPairs_14 ?_
      refine lv_istore_n (lv' := [(3, .int (x2 + 1)), (0, .ref (a 0)), (1, .int x1), (2, .int x2)]) hx hb dX3_countFrontPairs_15 rfl hl (by decide) rfl (fun ls hl => ?_)
      have L7 := lc2_ind (o := out) (step := (s_X3_countFrontPairs_16 σ x2 k3)) (fun x5 x6 => ∀ (H : Heap) (locs : List Loc) (ls : Array Slot), va_P E.1 vwCl (wX3 E a σ) H → va_D A (wX3 E a σ) → va_S A s.heap H locs → lv_has ls 4 [(0, .ref (a 0)), (1, .int x5), (2, .int x2), (3, .int x6)] → W p l e rm_X3_countFrontPairs s m ([.ref (a 0)] : List Value).toArray below meth c H locs 0 0 (MQ below (va_Qi (fun x (_ : Unit) => x = out) (fun _ t => QW E (wX3 E a σ) t) A) ([.ref (a 0)] : List Value).toArray s 0 0 A) (F0 m 16 ls [])) (fun x5 x6 k7 ih7 hf H locs ls hP hD hS hl => by
        refine lv_iload_n hx hb dX3_countFrontPairs_16 rfl (lv_at hl 3 rfl) ?_
        refine lv_aload_n hx hb dX3_countFrontPairs_17 rfl (lv_at hl 0 rfl) ?_
        refine r_get X hP 0 (wX3_g0_0 _ _ _) rfl inc_X3 0 (by decide) fl_X3_9 rfl dX3_countFrontPairs_18 ?_
        refine lv_icmp_ge (tgt := 43) hx hb dX3_countFrontPairs_21 (by decide) (fun c8 => ?_) (fun c8 => ?_)
        · have hf := (if_pos c8).symm.trans hf
          refine lv_iinc (v := (x2 + 1)) (lv' := [(2, .int (x2 + 1)), (0, .ref (a 0)), (1, .int x5), (3, .int x6)]) hx hb dX3_countFrontPairs_43 hl (k := 2) rfl rfl (by decide) rfl (fun ls hl => ?_)
          refine lv_goto (tgt := 4) hx hb dX3_countFrontPairs_46 (by decide) ?_
          exact ih3 x5 (x2 + 1) hf H locs ls hP hD hS (lv_sub hl [1, 2, 0] rfl)
        · have hf := (if_neg c8).symm.trans hf
          refine lv_aload_n hx hb dX3_countFrontPairs_24 rfl (lv_at hl 0 rfl) ?_
          refine lv_iload_n hx hb dX3_countFrontPairs_25 rfl (lv_at hl 2 rfl) ?_
          refine lv_iload_n hx hb dX3_countFrontPairs_26 rfl (lv_at hl 3 rfl) ?_
          obtain ⟨z9, hz9, hf⟩ := obd hf
          refine cV_allI X (As := [.int x2, .int x6]) (rest := []) (c_X3_touching l E a σ x2 x6 hz9) pv_X3_touching ml_X3_85 ⟨rfl, rfl⟩ ⟨(Nat.le_of_ble_eq_true rfl), (Nat.le_of_ble_eq_true rfl)⟩ hP hD hS (wX3_g0_0 _ _ _) rfl (wX3_adr _ _ _ _) rfl hl.1 rfl (Nat.le_of_ble_eq_true rfl) dX3_countFrontPairs_27 ⟨Nat.le_refl _, Nat.le_refl _⟩ (fun H locs hP hD hS => ?_)
          refine lv_iconst (v := 1) hx hb dX3_countFrontPairs_30 (by decide) ?_
          refine lv_icmp_ne (tgt := 37) hx hb dX3_countFrontPairs_31 (by decide) (fun c10 => ?_) (fun c10 => ?_)
          · have hf := (if_neg c10).symm.trans hf
            refine lv_iinc (v := (x6 + 1)) (lv' := [(3, .int (x6 + 1)), (0, .ref (a 0)), (1, .int x5), (2, .int x2)]) hx hb dX3_countFrontPairs_37 hl (k := 3) rfl rfl (by decide) rfl (fun ls hl => ?_)
            refine lv_goto (tgt := 16) hx hb dX3_countFrontPairs_40 (by decide) ?_
            exact ih7 x5 (x6 + 1) hf H locs ls hP hD hS (lv_sub hl [1, 2, 3, 0] rfl)
          · have hf := (if_pos c10).symm.trans hf
            refine lv_iinc (v := (x5 + 1)) (lv' := [(1, .int (x5 + 1)), (0, .ref (a 0)), (2, .int x2), (3, .int x6)]) hx hb dX3_countFrontPairs_34 hl (k := 1) rfl rfl (by decide) rfl (fun ls hl => ?_)
            refine lv_iinc (v := (x6 + 1)) (lv' := [(3, .int (x6 + 1)), (1, .int (x5 + 1)), (0, .ref (a 0)), (2, .int x2)]) hx hb dX3_countFrontPairs_37 hl (k := 3) rfl rfl (by decide) rfl (fun ls hl => ?_)
            refine lv_goto (tgt := 16) hx hb dX3_countFrontPairs_40 (by decide) ?_
            exact ih7 (x5 + 1) (x6 + 1) hf H locs ls hP hD hS (lv_sub hl [2, 1, 3, 0] rfl))
      exact L7 1000 x1 (x2 + 1) hf H locs ls hP hD hS (lv_sub hl [1, 2, 3, 0] rfl))
  exact L3 1000 0 0 hf H locs ls hP hD hS (lv_sub hl [2, 1, 0] rfl)
def rm_X3_gainOf : Room := { frames := 2, cells := 0, slots := 0, locals := 44 }
theorem pv_X3_gainOf : PkV RX3 yX3_gainOf cX3_gainOf 5 (some .int) 2 := ⟨im_X3_gainOf, se_X3_gainOf, ini_X3, cd_X3_gainOf, by decide +kernel⟩
set_option maxHeartbeats 4000000 in
set_option maxRecDepth 100000 in
theorem c_X3_gainOf (l : Launch) (E : Ev) (a : Nat → Nat) (σ : Sg) (b : Nat → Nat) (τ : Sg) (p1 : Int32) {out : Int32} (hf : f_X3_gainOf σ τ p1 = some out) : MtI l yX3_gainOf (wl yX3_gainOf cX3_gainOf 5 (some .int)) rm_X3_gainOf E [.ref (a 0), .int p1, .ref (b 0)] (wX3AI16 E a σ b τ) out (wX3AI16 E a σ b τ) := by
  refine mt_of (QQ := (fun A => va_Qi (fun x (_ : Unit) => x = out) (fun _ t => QW E (wX3AI16 E a σ b τ) t) A)) (by decide) (Nat.le_of_ble_eq_true rfl) (fun p e s m below meth c A ls X hr hP hD hS hl => ?_)
  have hx := X.1.1
  have hb := X.1.2.1
  have hl : lv_has ls 5 [(0, .ref (a 0)), (1, .int p1), (2, .ref (b 0))] := hl
  obtain ⟨H, hHe⟩ : ∃ H : Heap, H = s.heap := ⟨_, rfl⟩
  obtain ⟨locs, hLe⟩ : ∃ locs : List Loc, locs = [] := ⟨_, rfl⟩
  have hP : va_P E.1 vwCl (wX3AI16 E a σ b τ) H := by rw [hHe]; exact hP
  have hS : va_S A s.heap H locs := by rw [hHe, hLe]; exact hS
  rw [← hLe, show W p l e rm_X3_gainOf s m ([.ref (a 0), .int p1, .ref (b 0)] : List Value).toArray below meth c s.heap locs 0 0 = W p l e rm_X3_gainOf s m ([.ref (a 0), .int p1, .ref (b 0)] : List Value).toArray below meth c H locs 0 0 from by rw [hHe]]
  refine lv_iconst (v := 0) hx hb dX3_gainOf_0 (by decide) ?_
  refine lv_istore_n (lv' := [(3, .int 0), (0, .ref (a 0)), (1, .int p1), (2, .ref (b 0))]) hx hb dX3_gainOf_1 rfl hl (by decide) rfl (fun ls hl => ?_)
  refine lv_iconst (v := 0) hx hb dX3_gainOf_2 (by decide) ?_
  refine lv_istore (lv' := [(4, .int 0), (3, .int 0), (0, .ref (a 0)), (1, .int p1), (2, .ref (b 0))]) hx hb dX3_gainOf_3 hl (by decide) rfl (fun ls hl => ?_)
  have L3 := lc2_ind (o := out) (step := (s_X3_gainOf_5 σ τ p1)) (fun x1 x2 => ∀ (H : Heap) (locs : List Loc) (ls : Array Slot), va_P E.1 vwCl (wX3AI16 E a σ b τ) H → va_D A (wX3AI16 E a σ b τ) → va_S A s.heap H locs → lv_has ls 5 [(0, .ref (a 0)), (1, .int p1), (2, .ref (b 0)), (3, .int x1), (4, .int x2)] → W p l e rm_X3_gainOf s m ([.ref (a 0), .int p1, .ref (b 0)] : List Value).toArray below meth c H locs 0 0 (MQ below (va_Qi (fun x (_ : Unit) => x = out) (fun _ t => QW E (wX3AI16 E a σ b τ) t) A) ([.ref (a 0), .int p1, .ref (b 0)] : List Value).toArray s 0 0 A) (F0 m 5 ls [])) (fun x1 x2 k3 ih3 hf H locs ls hP hD hS hl => by
    refine lv_iload hx hb dX3_gainOf_5 (lv_at hl 4 rfl) ?_
    refine lv_aload_n hx hb dX3_gainOf_7 rfl (lv_at hl 0 rfl) ?_
    refine r_get X hP 0 (wX3AI16_g0_0 _ _ _ _ _) rfl inc_X3 0 (by decide) fl_X3_9 rfl dX3_gainOf_8 ?_
    refine lv_icmp_ge (tgt := 44) hx hb dX3_gainOf_11 (by decide) (fun c4 => ?_) (fun c4 => ?_)
    · have hf := (if_pos c4).symm.trans hf
      refine lv_iload_n hx hb dX3_gainOf_44 rfl (lv_at hl 3 rfl) ?_
      have ho := Option.some.inj hf
      exact r_iret X hr hP hS ho rfl dX3_gainOf_45
    · have hf := (if_neg c4).symm.trans hf
      refine lv_iload hx hb dX3_gainOf_14 (lv_at hl 4 rfl) ?_
      refine lv_iload_n hx hb dX3_gainOf_16 rfl (lv_at hl 1 rfl) ?_
      refine lv_icmp_eq (tgt := 38) hx hb dX3_gainOf_17 (by decide) (fun c5 => ?_) (fun c5 => ?_)
      · have hf := (if_pos c5).symm.trans hf
        refine lv_iinc (v := (x2 + 1)) (lv' := [(4, .int (x2 + 1)), (0, .ref (a 0)), (1, .int p1), (2, .ref (b 0)), (3, .int x1)]) hx hb dX3_gainOf_38 hl (k := 4) rfl rfl (by decide) rfl (fun ls hl => ?_)
        refine lv_goto (tgt := 5) hx hb dX3_gainOf_41 (by decide) ?_
        exact ih3 x1 (x2 + 1) hf H locs ls hP hD hS (lv_sub hl [1, 2, 3, 4, 0] rfl)
      · have hf := (if_neg c5).symm.trans hf
        refine lv_aload_n hx hb dX3_gainOf_20 rfl (lv_at hl 0 rfl) ?_
        refine lv_iload_n hx hb dX3_gainOf_21 rfl (lv_at hl 1 rfl) ?_
        refine lv_iload hx hb dX3_gainOf_22 (lv_at hl 4 rfl) ?_
        obtain ⟨z6, hz6, hf⟩ := obd hf
        refine cV_roI X (As := [.int p1, .int x2]) (rest := []) (c_X3_touching l E a σ p1 x2 hz6) pv_X3_touching ml_X3_85 ⟨rfl, rfl⟩ ⟨(Nat.le_of_ble_eq_true rfl), (Nat.le_of_ble_eq_true rfl)⟩ hP hD hS (wX3AI16_b_0_0_X3 _ _ _ _ _) rfl (wX3_g0_0 _ _ _) rfl rfl hl.1 rfl (Nat.le_of_ble_eq_true rfl) dX3_gainOf_24 ⟨Nat.le_refl _, Nat.le_refl _⟩ (fun H locs hP hS => ?_)
        refine lv_iconst (v := 1) hx hb dX3_gainOf_27 (by decide) ?_
        refine lv_icmp_ne (tgt := 38) hx hb dX3_gainOf_28 (by decide) (fun c7 => ?_) (fun c7 => ?_)
        · have hf := (if_neg c7).symm.trans hf
          refine lv_iinc (v := (x2 + 1)) (lv' := [(4, .int (x2 + 1)), (0, .ref (a 0)), (1, .int p1), (2, .ref (b 0)), (3, .int x1)]) hx hb dX3_gainOf_38 hl (k := 4) rfl rfl (by decide) rfl (fun ls hl => ?_)
          refine lv_goto (tgt := 5) hx hb dX3_gainOf_41 (by decide) ?_
          exact ih3 x1 (x2 + 1) hf H locs ls hP hD hS (lv_sub hl [1, 2, 3, 4, 0] rfl)
        · have hf := (if_pos c7).symm.trans hf
          refine lv_iload_n hx hb dX3_gainOf_31 rfl (lv_at hl 3 rfl) ?_
          refine lv_aload_n hx hb dX3_gainOf_32 rfl (lv_at hl 2 rfl) ?_
          refine lv_iload hx hb dX3_gainOf_33 (lv_at hl 4 rfl) ?_
          obtain ⟨h8, hf⟩ := chk_in hf
          refine r_iald X hP 6 (wX3AI16_g1_0 _ _ _ _ _) h8 dX3_gainOf_35 ?_
          refine lv_iadd hx hb dX3_gainOf_36 ?_
          refine lv_istore_n (lv' := [(3, .int (x1 + (τ 0 (x2 : Int32).toNatClampNeg))), (0, .ref (a 0)), (1, .int p1), (2, .ref (b 0)), (4, .int x2)]) hx hb dX3_gainOf_37 rfl hl (by decide) rfl (fun ls hl => ?_)
          refine lv_iinc (v := (x2 + 1)) (lv' := [(4, .int (x2 + 1)), (3, .int (x1 + (τ 0 (x2 : Int32).toNatClampNeg))), (0, .ref (a 0)), (1, .int p1), (2, .ref (b 0))]) hx hb dX3_gainOf_38 hl (k := 4) rfl rfl (by decide) rfl (fun ls hl => ?_)
          refine lv_goto (tgt := 5) hx hb dX3_gainOf_41 (by decide) ?_
          exact ih3 (x1 + (τ 0 (x2 : Int32).toNatClampNeg)) (x2 + 1) hf H locs ls hP hD hS (lv_sub hl [2, 3, 4, 1, 0] rfl))
  exact L3 1000 0 0 hf H locs ls hP hD hS (lv_sub hl [2, 3, 4, 1, 0] rfl)
def rm_X3_isOutermost : Room := { frames := 0, cells := 0, slots := 0, locals := 0 }
theorem pv_X3_isOutermost : PkV RX3 yX3_isOutermost cX3_isOutermost 4 (some .boolean) 2 := ⟨im_X3_isOutermost, se_X3_isOutermost, ini_X3, cd_X3_isOutermost, by decide +kernel⟩
set_option maxHeartbeats 4000000 in
set_option maxRecDepth 100000 in
theorem c_X3_isOutermost (l : Launch) (E : Ev) (a : Nat → Nat) (σ : Sg) (p1 : Int32) (p2 : Int32) {out : Int32} (hf : f_X3_isOutermost σ p1 p2 = some out) : MtI l yX3_isOutermost (wl yX3_isOutermost cX3_isOutermost 4 (some .boolean)) rm_X3_isOutermost E [.ref (a 0), .int p1, .int p2] (wX3 E a σ) out (wX3 E a σ) := by
  refine mt_of (QQ := (fun A => va_Qi (fun x (_ : Unit) => x = out) (fun _ t => QW E (wX3 E a σ) t) A)) (by decide) (Nat.le_of_ble_eq_true rfl) (fun p e s m below meth c A ls X hr hP hD hS hl => ?_)
  have hx := X.1.1
  have hb := X.1.2.1
  have hl : lv_has ls 4 [(0, .ref (a 0)), (1, .int p1), (2, .int p2)] := hl
  obtain ⟨H, hHe⟩ : ∃ H : Heap, H = s.heap := ⟨_, rfl⟩
  obtain ⟨locs, hLe⟩ : ∃ locs : List Loc, locs = [] := ⟨_, rfl⟩
  have hP : va_P E.1 vwCl (wX3 E a σ) H := by rw [hHe]; exact hP
  have hS : va_S A s.heap H locs := by rw [hHe, hLe]; exact hS
  rw [← hLe, show W p l e rm_X3_isOutermost s m ([.ref (a 0), .int p1, .int p2] : List Value).toArray below meth c s.heap locs 0 0 = W p l e rm_X3_isOutermost s m ([.ref (a 0), .int p1, .int p2] : List Value).toArray below meth c H locs 0 0 from by rw [hHe]]
  refine lv_iload_n hx hb dX3_isOutermost_0 rfl (lv_at hl 2 rfl) ?_
  refine lv_if_ne (tgt := 19) hx hb dX3_isOutermost_1 (by decide) (fun c1 => ?_) (fun c1 => ?_)
  · have hf := (if_neg c1).symm.trans hf
    refine lv_iconst (v := 0) hx hb dX3_isOutermost_19 (by decide) ?_
    refine lv_istore_n (lv' := [(3, .int 0), (0, .ref (a 0)), (1, .int p1), (2, .int p2)]) hx hb dX3_isOutermost_20 rfl hl (by decide) rfl (fun ls hl => ?_)
    have L3 := lc1_ind (o := out) (step := (s_X3_isOutermost_21 σ p1)) (fun x2 => ∀ (H : Heap) (locs : List Loc) (ls : Array Slot), va_P E.1 vwCl (wX3 E a σ) H → va_D A (wX3 E a σ) → va_S A s.heap H locs → lv_has ls 4 [(0, .ref (a 0)), (1, .int p1), (3, .int x2)] → W p l e rm_X3_isOutermost s m ([.ref (a 0), .int p1, .int p2] : List Value).toArray below meth c H locs 0 0 (MQ below (va_Qi (fun x (_ : Unit) => x = out) (fun _ t => QW E (wX3 E a σ) t) A) ([.ref (a 0), .int p1, .int p2] : List Value).toArray s 0 0 A) (F0 m 21 ls [])) (fun x2 k3 ih3 hf H locs ls hP hD hS hl => by
      refine lv_iload_n hx hb dX3_isOutermost_21 rfl (lv_at hl 2 rfl) ?_
      refine lv_aload_n hx hb dX3_isOutermost_22 rfl (lv_at hl 0 rfl) ?_
      refine r_get X hP 0 (wX3_g0_0 _ _ _) rfl inc_X3 0 (by decide) fl_X3_9 rfl dX3_isOutermost_23 ?_
      refine lv_icmp_ge (tgt := 82) hx hb dX3_isOutermost_26 (by decide) (fun c4 => ?_) (fun c4 => ?_)
      · have hf := (if_pos c4).symm.trans hf
        refine lv_iconst (v := 1) hx hb dX3_isOutermost_82 (by decide) ?_
        have ho := Option.some.inj hf
        exact r_zret X hr hP hS rfl ho rfl dX3_isOutermost_83
      · have hf := (if_neg c4).symm.trans hf
        refine lv_aload_n hx hb dX3_isOutermost_29 rfl (lv_at hl 0 rfl) ?_
        refine r_get X hP 0 (wX3_g0_0 _ _ _) rfl inc_X3 3 (by decide) fl_X3_21 rfl dX3_isOutermost_30 ?_
        refine lv_iload_n hx hb dX3_isOutermost_33 rfl (lv_at hl 2 rfl) ?_
        obtain ⟨h5, hf⟩ := chk_in hf
        refine r_iald X hP 1 (wX3_g0_1 _ _ _) h5 dX3_isOutermost_34 ?_
        refine lv_aload_n hx hb dX3_isOutermost_35 rfl (lv_at hl 0 rfl) ?_
        refine r_get X hP 0 (wX3_g0_0 _ _ _) rfl inc_X3 3 (by decide) fl_X3_21 rfl dX3_isOutermost_36 ?_
        refine lv_iload_n hx hb dX3_isOutermost_39 rfl (lv_at hl 1 rfl) ?_
        obtain ⟨h6, hf⟩ := chk_in hf
        refine r_iald X hP 1 (wX3_g0_1 _ _ _) h6 dX3_isOutermost_40 ?_
        refine lv_icmp_ne (tgt := 76) hx hb dX3_isOutermost_41 (by decide) (fun c7 => ?_) (fun c7 => ?_)
        · have hf := (if_neg c7).symm.trans hf
          refine lv_iinc (v := (x2 + 1)) (lv' := [(3, .int (x2 + 1)), (0, .ref (a 0)), (1, .int p1)]) hx hb dX3_isOutermost_76 hl (k := 2) rfl rfl (by decide) rfl (fun ls hl => ?_)
          refine lv_goto (tgt := 21) hx hb dX3_isOutermost_79 (by decide) ?_
          exact ih3 (x2 + 1) hf H locs ls hP hD hS (lv_sub hl [1, 2, 0] rfl)
        · have hf := (if_pos c7).symm.trans hf
          refine lv_aload_n hx hb dX3_isOutermost_44 rfl (lv_at hl 0 rfl) ?_
          refine r_get X hP 0 (wX3_g0_0 _ _ _) rfl inc_X3 4 (by decide) fl_X3_25 rfl dX3_isOutermost_45 ?_
          refine lv_iload_n hx hb dX3_isOutermost_48 rfl (lv_at hl 2 rfl) ?_
          obtain ⟨h8, hf⟩ := chk_in hf
          refine r_iald X hP 2 (wX3_g0_2 _ _ _) h8 dX3_isOutermost_49 ?_
          refine lv_aload_n hx hb dX3_isOutermost_50 rfl (lv_at hl 0 rfl) ?_
          refine r_get X hP 0 (wX3_g0_0 _ _ _) rfl inc_X3 4 (by decide) fl_X3_25 rfl dX3_isOutermost_51 ?_
          refine lv_iload_n hx hb dX3_isOutermost_54 rfl (lv_at hl 1 rfl) ?_
          obtain ⟨h9, hf⟩ := chk_in hf
          refine r_iald X hP 2 (wX3_g0_2 _ _ _) h9 dX3_isOutermost_55 ?_
          refine lv_icmp_ne (tgt := 76) hx hb dX3_isOutermost_56 (by decide) (fun c10 => ?_) (fun c10 => ?_)
          · have hf := (if_neg c10).symm.trans hf
            refine lv_iinc (v := (x2 + 1)) (lv' := [(3, .int (x2 + 1)), (0, .ref (a 0)), (1, .int p1)]) hx hb dX3_isOutermost_76 hl (k := 2) rfl rfl (by decide) rfl (fun ls hl => ?_)
            refine lv_goto (tgt := 21) hx hb dX3_isOutermost_79 (by decide) ?_
            exact ih3 (x2 + 1) hf H locs ls hP hD hS (lv_sub hl [1, 2, 0] rfl)
          · have hf := (if_pos c10).symm.trans hf
            refine lv_aload_n hx hb dX3_isOutermost_59 rfl (lv_at hl 0 rfl) ?_
            refine r_get X hP 0 (wX3_g0_0 _ _ _) rfl inc_X3 5 (by decide) fl_X3_28 rfl dX3_isOutermost_60 ?_
            refine lv_iload_n hx hb dX3_isOutermost_63 rfl (lv_at hl 2 rfl) ?_
            obtain ⟨h11, hf⟩ := chk_in hf
            refine r_iald X hP 3 (wX3_g0_3 _ _ _) h11 dX3_isOutermost_64 ?_
            refine lv_aload_n hx hb dX3_isOutermost_65 rfl (lv_at hl 0 rfl) ?_
            refine r_get X hP 0 (wX3_g0_0 _ _ _) rfl inc_X3 5 (by decide) fl_X3_28 rfl dX3_isOutermost_66 ?_
            refine lv_iload_n hx hb dX3_isOutermost_69 rfl (lv_at hl 1 rfl) ?_
            obtain ⟨h12, hf⟩ := chk_in hf
            refine r_iald X hP 3 (wX3_g0_3 _ _ _) h12 dX3_isOutermost_70 ?_
            refine lv_icmp_le (tgt := 76) hx hb dX3_isOutermost_71 (by decide) (fun c13 => ?_) (fun c13 => ?_)
            · have hf := (if_pos c13).symm.trans hf
              refine lv_iinc (v := (x2 + 1)) (lv' := [(3, .int (x2 + 1)), (0, .ref (a 0)), (1, .int p1)]) hx hb dX3_isOutermost_76 hl (k := 2) rfl rfl (by decide) rfl (fun ls hl => ?_)
              refine lv_goto (tgt := 21) hx hb dX3_isOutermost_79 (by decide) ?_
              exact ih3 (x2 + 1) hf H locs ls hP hD hS (lv_sub hl [1, 2, 0] rfl)
            · have hf := (if_neg c13).symm.trans hf
              refine lv_iconst (v := 0) hx hb dX3_isOutermost_74 (by decide) ?_
              have ho := Option.some.inj hf
              exact r_zret X hr hP hS rfl ho rfl dX3_isOutermost_75)
    exact L3 1000 0 hf H locs ls hP hD hS (lv_sub hl [1, 2, 0] rfl)
  · have hf := (if_pos c1).symm.trans hf
    refine lv_aload_n hx hb dX3_isOutermost_4 rfl (lv_at hl 0 rfl) ?_
    refine r_get X hP 0 (wX3_g0_0 _ _ _) rfl inc_X3 5 (by decide) fl_X3_28 rfl dX3_isOutermost_5 ?_
    refine lv_iload_n hx hb dX3_isOutermost_8 rfl (lv_at hl 1 rfl) ?_
    obtain ⟨h14, hf⟩ := chk_in hf
    refine r_iald X hP 3 (wX3_g0_3 _ _ _) h14 dX3_isOutermost_9 ?_
    refine lv_if_ne (tgt := 17) hx hb dX3_isOutermost_10 (by decide) (fun c15 => ?_) (fun c15 => ?_)
    · have hf := (if_neg c15).symm.trans hf
      refine lv_iconst (v := 0) hx hb dX3_isOutermost_17 (by decide) ?_
      have ho := Option.some.inj hf
      exact r_zret X hr hP hS rfl ho rfl dX3_isOutermost_18
    · have hf := (if_pos c15).symm.trans hf
      refine lv_iconst (v := 1) hx hb dX3_isOutermost_13 (by decide) ?_
      refine lv_goto (tgt := 18) hx hb dX3_isOutermost_14 (by decide) ?_
      have ho := Option.some.inj hf
      exact r_zret X hr hP hS rfl ho rfl dX3_isOutermost_18
def rm_X3_layFlat : Room := { frames := 1, cells := 0, slots := 0, locals := 21 }
theorem pv_X3_layFlat : PkV RX3 yX3_layFlat cX3_layFlat 5 none 2 := ⟨im_X3_layFlat, se_X3_layFlat, ini_X3, cd_X3_layFlat, by decide +kernel⟩
set_option maxHeartbeats 4000000 in
set_option maxRecDepth 100000 in
theorem c_X3_layFlat (l : Launch) (E : Ev) (a : Nat → Nat) (σ : Sg) (p1 : Int32) (p2 : Int32) {out : Sg} (hf : f_X3_layFlat σ p1 p2 = some out) : MtV l yX3_layFlat (wl yX3_layFlat cX3_layFlat 5 none) rm_X3_layFlat E [.ref (a 0), .int p1, .int p2] (wX3 E a σ) (wX3 E a out) := by
  refine mt_of (QQ := (fun A => va_Qv (fun _ : Unit => True) (fun _ t => QW E (wX3 E a out) t) A)) (by decide) (Nat.le_of_ble_eq_true rfl) (fun p e s m below meth c A ls X hr hP hD hS hl => ?_)
  have hx := X.1.1
  have hb := X.1.2.1
  have hl : lv_has ls 5 [(0, .ref (a 0)), (1, .int p1), (2, .int p2)] := hl
  obtain ⟨H, hHe⟩ : ∃ H : Heap, H = s.heap := ⟨_, rfl⟩
  obtain ⟨locs, hLe⟩ : ∃ locs : List Loc, locs = [] := ⟨_, rfl⟩
  have hP : va_P E.1 vwCl (wX3 E a σ) H := by rw [hHe]; exact hP
  have hS : va_S A s.heap H locs := by rw [hHe, hLe]; exact hS
  rw [← hLe, show W p l e rm_X3_layFlat s m ([.ref (a 0), .int p1, .int p2] : List Value).toArray below meth c s.heap locs 0 0 = W p l e rm_X3_layFlat s m ([.ref (a 0), .int p1, .int p2] : List Value).toArray below meth c H locs 0 0 from by rw [hHe]]
  refine lv_aload_n hx hb dX3_layFlat_0 rfl (lv_at hl 0 rfl) ?_
  refine lv_iload_n hx hb dX3_layFlat_1 rfl (lv_at hl 1 rfl) ?_
  refine lv_iconst (v := 4) hx hb dX3_layFlat_2 (by decide) ?_
  refine r_min X hl.1 ml_X3_37 sm_Math_min ini_J9 cd_Math_min (Nat.le_of_ble_eq_true rfl) (Nat.le_of_ble_eq_true rfl) (Nat.le_refl _) (Nat.le_refl _) dX3_layFlat_3 ?_
  refine r_put X hP hD hS 0 (wX3_g0_0 _ _ _) rfl inc_X3 tyX3 tyX3_ok nmX3 1 (by decide) fl_X3_15 rfl (ty := .int) rfl rfl rfl (Nat.le_of_ble_eq_true rfl) (wX3_s0_0_1 _ _ _ _) dX3_layFlat_6 (fun H locs hP hD hS => ?_)
  refine lv_aload_n hx hb dX3_layFlat_9 rfl (lv_at hl 0 rfl) ?_
  refine lv_iload_n hx hb dX3_layFlat_10 rfl (lv_at hl 2 rfl) ?_
  refine lv_iconst (v := 4) hx hb dX3_layFlat_11 (by decide) ?_
  refine r_min X hl.1 ml_X3_37 sm_Math_min ini_J9 cd_Math_min (Nat.le_of_ble_eq_true rfl) (Nat.le_of_ble_eq_true rfl) (Nat.le_refl _) (Nat.le_refl _) dX3_layFlat_12 ?_
  refine r_put X hP hD hS 0 (wX3_g0_0 _ _ _) rfl inc_X3 tyX3 tyX3_ok nmX3 2 (by decide) fl_X3_18 rfl (ty := .int) rfl rfl rfl (Nat.le_of_ble_eq_true rfl) (wX3_s0_0_2 _ _ _ _) dX3_layFlat_15 (fun H locs hP hD hS => ?_)
  refine lv_aload_n hx hb dX3_layFlat_18 rfl (lv_at hl 0 rfl) ?_
  refine lv_iconst (v := 0) hx hb dX3_layFlat_19 (by decide) ?_
  refine r_put X hP hD hS 0 (wX3_g0_0 _ _ _) rfl inc_X3 tyX3 tyX3_ok nmX3 0 (by decide) fl_X3_9 rfl (ty := .int) rfl rfl rfl (Nat.le_of_ble_eq_true rfl) (wX3_s0_0_0 _ _ _ _) dX3_layFlat_20 (fun H locs hP hD hS => ?_)
  refine lv_iconst (v := 0) hx hb dX3_layFlat_23 (by decide) ?_
  refine lv_istore_n (lv' := [(3, .int 0), (0, .ref (a 0)), (1, .int p1), (2, .int p2)]) hx hb dX3_layFlat_24 rfl hl (by decide) rfl (fun ls hl => ?_)
  have L3 := lc2_ind (o := out) (step := (s_X3_layFlat_25)) (fun x1 g2 => ∀ (H : Heap) (locs : List Loc) (ls : Array Slot), va_P E.1 vwCl (wX3 E a g2) H → va_D A (wX3 E a g2) → va_S A s.heap H locs → lv_has ls 5 [(0, .ref (a 0)), (3, .int x1)] → W p l e rm_X3_layFlat s m ([.ref (a 0), .int p1, .int p2] : List Value).toArray below meth c H locs 0 0 (MQ below (va_Qv (fun _ : Unit => True) (fun _ t => QW E (wX3 E a out) t) A) ([.ref (a 0), .int p1, .int p2] : List Value).toArray s 0 0 A) (F0 m 25 ls [])) (fun x1 g2 k3 ih3 hf H locs ls hP hD hS hl => by
    refine lv_iload_n hx hb dX3_layFlat_25 rfl (lv_at hl 1 rfl) ?_
    refine lv_aload_n hx hb dX3_layFlat_26 rfl (lv_at hl 0 rfl) ?_
    refine r_get X hP 0 (wX3_g0_0 _ _ _) rfl inc_X3 2 (by decide) fl_X3_18 rfl dX3_layFlat_27 ?_
    refine lv_icmp_ge (tgt := 108) hx hb dX3_layFlat_30 (by decide) (fun c4 => ?_) (fun c4 => ?_)
    · have hf := (if_pos c4).symm.trans hf
      have ho := Option.some.inj hf
      have hw := congrArg (fun o : Sg => (wX3 E a o)) ho
      exact r_vret X hr hP hS hw dX3_layFlat_108
    · have hf := (if_neg c4).symm.trans hf
      refine lv_iconst (v := 0) hx hb dX3_layFlat_33 (by decide) ?_
      refine lv_istore (lv' := [(4, .int 0), (0, .ref (a 0)), (3, .int x1)]) hx hb dX3_layFlat_34 hl (by decide) rfl (fun ls hl => ?_)
      have L7 := lc2_ind (o := out) (step := (s_X3_layFlat_36 x1 k3)) (fun x5 g6 => ∀ (H : Heap) (locs : List Loc) (ls : Array Slot), va_P E.1 vwCl (wX3 E a g6) H → va_D A (wX3 E a g6) → va_S A s.heap H locs → lv_has ls 5 [(0, .ref (a 0)), (3, .int x1), (4, .int x5)] → W p l e rm_X3_layFlat s m ([.ref (a 0), .int p1, .int p2] : List Value).toArray below meth c H locs 0 0 (MQ below (va_Qv (fun _ : Unit => True) (fun _ t => QW E (wX3 E a out) t) A) ([.ref (a 0), .int p1, .int p2] : List Value).toArray s 0 0 A) (F0 m 36 ls [])) (fun x5 g6 k7 ih7 hf H locs ls hP hD hS hl => by
        refine lv_iload hx hb dX3_layFlat_36 (lv_at hl 2 rfl) ?_
        refine lv_aload_n hx hb dX3_layFlat_38 rfl (lv_at hl 0 rfl) ?_
        refine r_get X hP 0 (wX3_g0_0 _ _ _) rfl inc_X3 1 (by decide) fl_X3_15 rfl dX3_layFlat_39 ?_
        refine lv_icmp_ge (tgt := 102) hx hb dX3_layFlat_42 (by decide) (fun c8 => ?_) (fun c8 => ?_)
        · have hf := (if_pos c8).symm.trans hf
          refine lv_iinc (v := (x1 + 1)) (lv' := [(3, .int (x1 + 1)), (0, .ref (a 0)), (4, .int x5)]) hx hb dX3_layFlat_102 hl (k := 1) rfl rfl (by decide) rfl (fun ls hl => ?_)
          refine lv_goto (tgt := 25) hx hb dX3_layFlat_105 (by decide) ?_
          exact ih3 (x1 + 1) g6 hf H locs ls hP hD hS (lv_sub hl [1, 0] rfl)
        · have hf := (if_neg c8).symm.trans hf
          refine lv_aload_n hx hb dX3_layFlat_45 rfl (lv_at hl 0 rfl) ?_
          refine r_get X hP 0 (wX3_g0_0 _ _ _) rfl inc_X3 3 (by decide) fl_X3_21 rfl dX3_layFlat_46 ?_
          refine lv_aload_n hx hb dX3_layFlat_49 rfl (lv_at hl 0 rfl) ?_
          refine r_get X hP 0 (wX3_g0_0 _ _ _) rfl inc_X3 0 (by decide) fl_X3_9 rfl dX3_layFlat_50 ?_
          refine lv_iload hx hb dX3_layFlat_53 (lv_at hl 2 rfl) ?_
          obtain ⟨h9, hf⟩ := chk_in hf
          refine r_iast X hP hD hS 1 (wX3_g0_1 _ _ _) h9 (wX3_t0_1 _ _ _ _ _) dX3_layFlat_55 (fun H locs hP hD hS => ?_)
          refine lv_aload_n hx hb dX3_layFlat_56 rfl (lv_at hl 0 rfl) ?_
          refine r_get X hP 0 (wX3_g0_0 _ _ _) rfl inc_X3 4 (by decide) fl_X3_25 rfl dX3_layFlat_57 ?_
          refine lv_aload_n hx hb dX3_layFlat_60 rfl (lv_at hl 0 rfl) ?_
          refine r_get X hP 0 (wX3_g0_0 _ _ _) rfl inc_X3 0 (by decide) fl_X3_9 rfl dX3_layFlat_61 ?_
          refine lv_iload_n hx hb dX3_layFlat_64 rfl (lv_at hl 1 rfl) ?_
          obtain ⟨h10, hf⟩ := chk_in hf
          refine r_iast X hP hD hS 2 (wX3_g0_2 _ _ _) h10 (wX3_t0_2 _ _ _ _ _) dX3_layFlat_65 (fun H locs hP hD hS => ?_)
          refine lv_aload_n hx hb dX3_layFlat_66 rfl (lv_at hl 0 rfl) ?_
          refine r_get X hP 0 (wX3_g0_0 _ _ _) rfl inc_X3 5 (by decide) fl_X3_28 rfl dX3_layFlat_67 ?_
          refine lv_aload_n hx hb dX3_layFlat_70 rfl (lv_at hl 0 rfl) ?_
          refine r_get X hP 0 (wX3_g0_0 _ _ _) rfl inc_X3 0 (by decide) fl_X3_9 rfl dX3_layFlat_71 ?_
          refine lv_iconst (v := 0) hx hb dX3_layFlat_74 (by decide) ?_
          obtain ⟨h11, hf⟩ := chk_in hf
          refine r_iast X hP hD hS 3 (wX3_g0_3 _ _ _) h11 (wX3_t0_3 _ _ _ _ _) dX3_layFlat_75 (fun H locs hP hD hS => ?_)
          refine lv_aload_n hx hb dX3_layFlat_76 rfl (lv_at hl 0 rfl) ?_
          refine r_get X hP 0 (wX3_g0_0 _ _ _) rfl inc_X3 6 (by decide) fl_X3_31 rfl dX3_layFlat_77 ?_
          refine lv_aload_n hx hb dX3_layFlat_80 rfl (lv_at hl 0 rfl) ?_
          refine r_get X hP 0 (wX3_g0_0 _ _ _) rfl inc_X3 0 (by decide) fl_X3_9 rfl dX3_layFlat_81 ?_
          refine lv_iconst (v := 1) hx hb dX3_layFlat_84 (by decide) ?_
          obtain ⟨h12, hf⟩ := chk_in hf
          refine r_iast X hP hD hS 4 (wX3_g0_4 _ _ _) h12 (wX3_t0_4 _ _ _ _ _) dX3_layFlat_85 (fun H locs hP hD hS => ?_)
          refine lv_aload_n hx hb dX3_layFlat_86 rfl (lv_at hl 0 rfl) ?_
          refine lv_dup hx hb dX3_layFlat_87 rfl ?_
          refine r_get X hP 0 (wX3_g0_0 _ _ _) rfl inc_X3 0 (by decide) fl_X3_9 rfl dX3_layFlat_88 ?_
          refine lv_iconst (v := 1) hx hb dX3_layFlat_91 (by decide) ?_
          refine lv_iadd hx hb dX3_layFlat_92 ?_
          refine r_put X hP hD hS 0 (wX3_g0_0 _ _ _) rfl inc_X3 tyX3 tyX3_ok nmX3 0 (by decide) fl_X3_9 rfl (ty := .int) rfl rfl rfl (Nat.le_of_ble_eq_true rfl) (wX3_s0_0_0 _ _ _ _) dX3_layFlat_93 (fun H locs hP hD hS => ?_)
          refine lv_iinc (v := (x5 + 1)) (lv' := [(4, .int (x5 + 1)), (0, .ref (a 0)), (3, .int x1)]) hx hb dX3_layFlat_96 hl (k := 2) rfl rfl (by decide) rfl (fun ls hl => ?_)
          refine lv_goto (tgt := 36) hx hb dX3_layFlat_99 (by decide) ?_
          exact ih7 (x5 + 1) (sg_st (sg_st (sg_st (sg_st (sg_st g6 1 ((g6 0 0) : Int32).toNatClampNeg x5) 2 (((sg_st g6 1 ((g6 0 0) : Int32).toNatClampNeg x5) 0 0) : Int32).toNatClampNeg x1) 3 (((sg_st (sg_st g6 1 ((g6 0 0) : Int32).toNatClampNeg x5) 2 (((sg_st g6 1 ((g6 0 0) : Int32).toNatClampNeg x5) 0 0) : Int32).toNatClampNeg x1) 0 0) : Int32).toNatClampNeg 0) 4 (((sg_st (sg_st (sg_st g6 1 ((g6 0 0) : Int32).toNatClampNeg x5) 2 (((sg_st g6 1 ((g6 0 0) : Int32).toNatClampNeg x5) 0 0) : Int32).toNatClampNeg x1) 3 (((sg_st (sg_st g6 1 ((g6 0 0) : Int32).toNatClampNeg x5) 2 (((sg_st g6 1 ((g6 0 0) : Int32).toNatClampNeg x5) 0 0) : Int32).toNatClampNeg x1) 0 0) : Int32).toNatClampNeg 0) 0 0) : Int32).toNatClampNeg 1) 0 0 (((sg_st (sg_st (sg_st (sg_st g6 1 ((g6 0 0) : Int32).toNatClampNeg x5) 2 (((sg_st g6 1 ((g6 0 0) : Int32).toNatClampNeg x5) 0 0) : Int32).toNatClampNeg x1) 3 (((sg_st (sg_st g6 1 ((g6 0 0) : Int32).toNatClampNeg x5) 2 (((sg_st g6 1 ((g6 0 0) : Int32).toNatClampNeg x5) 0 0) : Int32).toNatClampNeg x1) 0 0) : Int32).toNatClampNeg 0) 4 (((sg_st (sg_st (sg_st g6 1 ((g6 0 0) : Int32).toNatClampNeg x5) 2 (((sg_st g6 1 ((g6 0 0) : Int32).toNatClampNeg x5) 0 0) : Int32).toNatClampNeg x1) 3 (((sg_st (sg_st g6 1 ((g6 0 0) : Int32).toNatClampNeg x5) 2 (((sg_st g6 1 ((g6 0 0) : Int32).toNatClampNeg x5) 0 0) : Int32).toNatClampNeg x1) 0 0) : Int32).toNatClampNeg 0) 0 0) : Int32).toNatClampNeg 1) 0 0) + 1)) hf H locs ls hP hD hS (lv_sub hl [1, 2, 0] rfl))
      exact L7 1000 0 g2 hf H locs ls hP hD hS (lv_sub hl [1, 2, 0] rfl))
  exact L3 1000 0 (sg_st (sg_st (sg_st σ 0 1 (if 4 < p1 then 4 else p1)) 0 2 (if 4 < p2 then 4 else p2)) 0 0 0) hf H locs ls hP hD hS (lv_sub hl [1, 0] rfl)
def rm_X3_meetingFold : Room := { frames := 1, cells := 0, slots := 0, locals := 23 }
theorem pv_X3_meetingFold : PkV RX3 yX3_meetingFold cX3_meetingFold 9 (some .int) 2 := ⟨im_X3_meetingFold, se_X3_meetingFold, ini_X3, cd_X3_meetingFold, by decide +kernel⟩
set_option maxHeartbeats 4000000 in
set_option maxRecDepth 100000 in
theorem c_X3_meetingFold (l : Launch) (E : Ev) (a : Nat → Nat) (σ : Sg) (p1 : Int32) (p2 : Int32) {out : Int32} (hf : f_X3_meetingFold σ p1 p2 = some out) : MtI l yX3_meetingFold (wl yX3_meetingFold cX3_meetingFold 9 (some .int)) rm_X3_meetingFold E [.ref (a 0), .int p1, .int p2] (wX3 E a σ) out (wX3 E a σ) := by
  refine mt_of (QQ := (fun A => va_Qi (fun x (_ : Unit) => x = out) (fun _ t => QW E (wX3 E a σ) t) A)) (by decide) (Nat.le_of_ble_eq_true rfl) (fun p e s m below meth c A ls X hr hP hD hS hl => ?_)
  have hx := X.1.1
  have hb := X.1.2.1
  have hl : lv_has ls 9 [(0, .ref (a 0)), (1, .int p1), (2, .int p2)] := hl
  obtain ⟨H, hHe⟩ : ∃ H : Heap, H = s.heap := ⟨_, rfl⟩
  obtain ⟨locs, hLe⟩ : ∃ locs : List Loc, locs = [] := ⟨_, rfl⟩
  have hP : va_P E.1 vwCl (wX3 E a σ) H := by rw [hHe]; exact hP
  have hS : va_S A s.heap H locs := by rw [hHe, hLe]; exact hS
  rw [← hLe, show W p l e rm_X3_meetingFold s m ([.ref (a 0), .int p1, .int p2] : List Value).toArray below meth c s.heap locs 0 0 = W p l e rm_X3_meetingFold s m ([.ref (a 0), .int p1, .int p2] : List Value).toArray below meth c H locs 0 0 from by rw [hHe]]
  refine lv_aload_n hx hb dX3_meetingFold_0 rfl (lv_at hl 0 rfl) ?_
  refine r_get X hP 0 (wX3_g0_0 _ _ _) rfl inc_X3 3 (by decide) fl_X3_21 rfl dX3_meetingFold_1 ?_
  refine lv_iload_n hx hb dX3_meetingFold_4 rfl (lv_at hl 1 rfl) ?_
  obtain ⟨h1, hf⟩ := chk_in hf
  refine r_iald X hP 1 (wX3_g0_1 _ _ _) h1 dX3_meetingFold_5 ?_
  refine lv_aload_n hx hb dX3_meetingFold_6 rfl (lv_at hl 0 rfl) ?_
  refine r_get X hP 0 (wX3_g0_0 _ _ _) rfl inc_X3 3 (by decide) fl_X3_21 rfl dX3_meetingFold_7 ?_
  refine lv_iload_n hx hb dX3_meetingFold_10 rfl (lv_at hl 2 rfl) ?_
  obtain ⟨h2, hf⟩ := chk_in hf
  refine r_iald X hP 1 (wX3_g0_1 _ _ _) h2 dX3_meetingFold_11 ?_
  have J1 : ∀ (x3 : Int32), j_X3_meetingFold_1 σ p1 p2 x3 = some out → ∀ (H : Heap) (locs : List Loc) (ls : Array Slot), va_P E.1 vwCl (wX3 E a σ) H → va_D A (wX3 E a σ) → va_S A s.heap H locs → lv_has ls 9 [(0, .ref (a 0)), (1, .int p1), (2, .int p2)] → W p l e rm_X3_meetingFold s m ([.ref (a 0), .int p1, .int p2] : List Value).toArray below meth c H locs 0 0 (MQ below (va_Qi (fun x (_ : Unit) => x = out) (fun _ t => QW E (wX3 E a σ) t) A) ([.ref (a 0), .int p1, .int p2] : List Value).toArray s 0 0 A) (F0 m 20 ls [.int x3]) := by
    intro x3 hf H locs ls hP hD hS hl
    refine lv_istore_n (lv' := [(3, .int x3), (0, .ref (a 0)), (1, .int p1), (2, .int p2)]) hx hb dX3_meetingFold_20 rfl hl (by decide) rfl (fun ls hl => ?_)
    refine lv_aload_n hx hb dX3_meetingFold_21 rfl (lv_at hl 1 rfl) ?_
    refine r_get X hP 0 (wX3_g0_0 _ _ _) rfl inc_X3 4 (by decide) fl_X3_25 rfl dX3_meetingFold_22 ?_
    refine lv_iload_n hx hb dX3_meetingFold_25 rfl (lv_at hl 2 rfl) ?_
    obtain ⟨h4, hf⟩ := chk_in hf
    refine r_iald X hP 2 (wX3_g0_2 _ _ _) h4 dX3_meetingFold_26 ?_
    refine lv_aload_n hx hb dX3_meetingFold_27 rfl (lv_at hl 1 rfl) ?_
    refine r_get X hP 0 (wX3_g0_0 _ _ _) rfl inc_X3 4 (by decide) fl_X3_25 rfl dX3_meetingFold_28 ?_
    refine lv_iload_n hx hb dX3_meetingFold_31 rfl (lv_at hl 3 rfl) ?_
    obtain ⟨h5, hf⟩ := chk_in hf
    refine r_iald X hP 2 (wX3_g0_2 _ _ _) h5 dX3_meetingFold_32 ?_
    have J2 : ∀ (x6 : Int32), j_X3_meetingFold_2 σ p1 p2 x3 x6 = some out → ∀ (H : Heap) (locs : List Loc) (ls : Array Slot), va_P E.1 vwCl (wX3 E a σ) H → va_D A (wX3 E a σ) → va_S A s.heap H locs → lv_has ls 9 [(0, .ref (a 0)), (1, .int p1), (2, .int p2), (3, .int x3)] → W p l e rm_X3_meetingFold s m ([.ref (a 0), .int p1, .int p2] : List Value).toArray below meth c H locs 0 0 (MQ below (va_Qi (fun x (_ : Unit) => x = out) (fun _ t => QW E (wX3 E a σ) t) A) ([.ref (a 0), .int p1, .int p2] : List Value).toArray s 0 0 A) (F0 m 41 ls [.int x6]) := by
      intro x6 hf H locs ls hP hD hS hl
      refine lv_istore (lv' := [(4, .int x6), (0, .ref (a 0)), (1, .int p1), (2, .int p2), (3, .int x3)]) hx hb dX3_meetingFold_41 hl (by decide) rfl (fun ls hl => ?_)
      refine lv_iload_n hx hb dX3_meetingFold_43 rfl (lv_at hl 4 rfl) ?_
      refine lv_iload hx hb dX3_meetingFold_44 (lv_at hl 0 rfl) ?_
      refine lv_icmp_eq (tgt := 64) hx hb dX3_meetingFold_46 (by decide) (fun c7 => ?_) (fun c7 => ?_)
      · have hf := (if_pos c7).symm.trans hf
        refine lv_bipush (v := (-9)) hx hb dX3_meetingFold_64 (by decide) ?_
        have ho := Option.some.inj hf
        exact r_iret X hr hP hS ho rfl dX3_meetingFold_66
      · have hf := (if_neg c7).symm.trans hf
        refine lv_aload_n hx hb dX3_meetingFold_49 rfl (lv_at hl 1 rfl) ?_
        refine r_get X hP 0 (wX3_g0_0 _ _ _) rfl inc_X3 6 (by decide) fl_X3_31 rfl dX3_meetingFold_50 ?_
        refine lv_iload_n hx hb dX3_meetingFold_53 rfl (lv_at hl 2 rfl) ?_
        obtain ⟨h8, hf⟩ := chk_in hf
        refine r_iald X hP 4 (wX3_g0_4 _ _ _) h8 dX3_meetingFold_54 ?_
        refine lv_aload_n hx hb dX3_meetingFold_55 rfl (lv_at hl 1 rfl) ?_
        refine r_get X hP 0 (wX3_g0_0 _ _ _) rfl inc_X3 6 (by decide) fl_X3_31 rfl dX3_meetingFold_56 ?_
        refine lv_iload_n hx hb dX3_meetingFold_59 rfl (lv_at hl 3 rfl) ?_
        obtain ⟨h9, hf⟩ := chk_in hf
        refine r_iald X hP 4 (wX3_g0_4 _ _ _) h9 dX3_meetingFold_60 ?_
        refine lv_icmp_eq (tgt := 67) hx hb dX3_meetingFold_61 (by decide) (fun c10 => ?_) (fun c10 => ?_)
        · have hf := (if_pos c10).symm.trans hf
          refine lv_iload hx hb dX3_meetingFold_67 (lv_at hl 0 rfl) ?_
          have J3 : ∀ (x11 : Int32), j_X3_meetingFold_3 σ p1 p2 x6 x11 = some out → ∀ (H : Heap) (locs : List Loc) (ls : Array Slot), va_P E.1 vwCl (wX3 E a σ) H → va_D A (wX3 E a σ) → va_S A s.heap H locs → lv_has ls 9 [(0, .ref (a 0)), (1, .int p1), (2, .int p2), (4, .int x6)] → W p l e rm_X3_meetingFold s m ([.ref (a 0), .int p1, .int p2] : List Value).toArray below meth c H locs 0 0 (MQ below (va_Qi (fun x (_ : Unit) => x = out) (fun _ t => QW E (wX3 E a σ) t) A) ([.ref (a 0), .int p1, .int p2] : List Value).toArray s 0 0 A) (F0 m 77 ls [.int x11]) := by
            intro x11 hf H locs ls hP hD hS hl
            refine lv_istore (lv' := [(5, .int x11), (0, .ref (a 0)), (1, .int p1), (2, .int p2), (4, .int x6)]) hx hb dX3_meetingFold_77 hl (by decide) rfl (fun ls hl => ?_)
            refine lv_iload hx hb dX3_meetingFold_79 (lv_at hl 4 rfl) ?_
            have J4 : ∀ (x12 : Int32), j_X3_meetingFold_4 σ p1 p2 x11 x12 = some out → ∀ (H : Heap) (locs : List Loc) (ls : Array Slot), va_P E.1 vwCl (wX3 E a σ) H → va_D A (wX3 E a σ) → va_S A s.heap H locs → lv_has ls 9 [(0, .ref (a 0)), (1, .int p1), (2, .int p2), (5, .int x11)] → W p l e rm_X3_meetingFold s m ([.ref (a 0), .int p1, .int p2] : List Value).toArray below meth c H locs 0 0 (MQ below (va_Qi (fun x (_ : Unit) => x = out) (fun _ t => QW E (wX3 E a σ) t) A) ([.ref (a 0), .int p1, .int p2] : List Value).toArray s 0 0 A) (F0 m 113 ls [.int x12]) := by
              intro x12 hf H locs ls hP hD hS hl
              refine lv_istore (lv' := [(6, .int x12), (0, .ref (a 0)), (1, .int p1), (2, .int p2), (5, .int x11)]) hx hb dX3_meetingFold_113 hl (by decide) rfl (fun ls hl => ?_)
              refine lv_aload_n hx hb dX3_meetingFold_115 rfl (lv_at hl 1 rfl) ?_
              refine r_get X hP 0 (wX3_g0_0 _ _ _) rfl inc_X3 6 (by decide) fl_X3_31 rfl dX3_meetingFold_116 ?_
              refine lv_iload_n hx hb dX3_meetingFold_119 rfl (lv_at hl 2 rfl) ?_
              obtain ⟨h13, hf⟩ := chk_in hf
              refine r_iald X hP 4 (wX3_g0_4 _ _ _) h13 dX3_meetingFold_120 ?_
              refine lv_istore (lv' := [(7, .int (σ 4 (p1 : Int32).toNatClampNeg)), (6, .int x12), (0, .ref (a 0)), (1, .int p1), (2, .int p2), (5, .int x11)]) hx hb dX3_meetingFold_121 hl (by decide) rfl (fun ls hl => ?_)
              refine lv_iload hx hb dX3_meetingFold_123 (lv_at hl 1 rfl) ?_
              refine lv_iconst (v := 2) hx hb dX3_meetingFold_125 (by decide) ?_
              refine lv_irem hx hb dX3_meetingFold_126 (by decide) ?_
              refine lv_if_eq (tgt := 150) hx hb dX3_meetingFold_127 (by decide) (fun c14 => ?_) (fun c14 => ?_)
              · have hf := (if_pos c14).symm.trans hf
                refine lv_bipush (v := (-9)) hx hb dX3_meetingFold_150 (by decide) ?_
                have ho := Option.some.inj hf
                exact r_iret X hr hP hS ho rfl dX3_meetingFold_152
              · have hf := (if_neg c14).symm.trans hf
                refine lv_aload_n hx hb dX3_meetingFold_130 rfl (lv_at hl 2 rfl) ?_
                refine lv_iload_n hx hb dX3_meetingFold_131 rfl (lv_at hl 3 rfl) ?_
                refine lv_iload hx hb dX3_meetingFold_132 (lv_at hl 0 rfl) ?_
                obtain ⟨z15, hz15, hf⟩ := obd hf
                refine cV_allI X (As := [.int p1, .int (σ 4 (p1 : Int32).toNatClampNeg)]) (rest := []) (c_X3_isOutermost l E a σ p1 (σ 4 (p1 : Int32).toNatClampNeg) hz15) pv_X3_isOutermost ml_X3_99 ⟨rfl, rfl⟩ ⟨(Nat.le_of_ble_eq_true rfl), (Nat.le_of_ble_eq_true rfl)⟩ hP hD hS (wX3_g0_0 _ _ _) rfl (wX3_adr _ _ _ _) rfl hl.1 rfl (Nat.le_of_ble_eq_true rfl) dX3_meetingFold_134 ⟨Nat.le_refl _, Nat.le_refl _⟩ (fun H locs hP hD hS => ?_)
                refine lv_if_eq (tgt := 150) hx hb dX3_meetingFold_137 (by decide) (fun c16 => ?_) (fun c16 => ?_)
                · have hf := (if_pos c16).symm.trans hf
                  refine lv_bipush (v := (-9)) hx hb dX3_meetingFold_150 (by decide) ?_
                  have ho := Option.some.inj hf
                  exact r_iret X hr hP hS ho rfl dX3_meetingFold_152
                · have hf := (if_neg c16).symm.trans hf
                  refine lv_aload_n hx hb dX3_meetingFold_140 rfl (lv_at hl 2 rfl) ?_
                  refine lv_iload_n hx hb dX3_meetingFold_141 rfl (lv_at hl 4 rfl) ?_
                  refine lv_iload hx hb dX3_meetingFold_142 (lv_at hl 0 rfl) ?_
                  obtain ⟨z17, hz17, hf⟩ := obd hf
                  refine cV_allI X (As := [.int p2, .int (σ 4 (p1 : Int32).toNatClampNeg)]) (rest := []) (c_X3_isOutermost l E a σ p2 (σ 4 (p1 : Int32).toNatClampNeg) hz17) pv_X3_isOutermost ml_X3_99 ⟨rfl, rfl⟩ ⟨(Nat.le_of_ble_eq_true rfl), (Nat.le_of_ble_eq_true rfl)⟩ hP hD hS (wX3_g0_0 _ _ _) rfl (wX3_adr _ _ _ _) rfl hl.1 rfl (Nat.le_of_ble_eq_true rfl) dX3_meetingFold_144 ⟨Nat.le_refl _, Nat.le_refl _⟩ (fun H locs hP hD hS => ?_)
                  refine lv_if_ne (tgt := 153) hx hb dX3_meetingFold_147 (by decide) (fun c18 => ?_) (fun c18 => ?_)
                  · have hf := (if_neg c18).symm.trans hf
                    refine lv_iload hx hb dX3_meetingFold_153 (lv_at hl 1 rfl) ?_
                    refine lv_iconst (v := 1) hx hb dX3_meetingFold_155 (by decide) ?_
                    refine lv_iadd hx hb dX3_meetingFold_156 ?_
                    refine lv_iconst (v := 2) hx hb dX3_meetingFold_157 (by decide) ?_
                    refine lv_idiv hx hb dX3_meetingFold_158 (by decide) ?_
                    refine lv_istore (lv' := [(8, .int ((x12 + 1) / 2)), (7, .int (σ 4 (p1 : Int32).toNatClampNeg)), (6, .int x12), (0, .ref (a 0)), (1, .int p1), (2, .int p2), (5, .int x11)]) hx hb dX3_meetingFold_159 hl (by decide) rfl (fun ls hl => ?_)
                    refine lv_iload hx hb dX3_meetingFold_161 (lv_at hl 6 rfl) ?_
                    refine lv_iconst (v := 4) hx hb dX3_meetingFold_163 (by decide) ?_
                    refine lv_iload hx hb dX3_meetingFold_164 (lv_at hl 1 rfl) ?_
                    refine lv_imul hx hb dX3_meetingFold_166 ?_
                    refine lv_iadd hx hb dX3_meetingFold_167 ?_
                    refine lv_bipush (v := 8) hx hb dX3_meetingFold_168 (by decide) ?_
                    refine lv_iload hx hb dX3_meetingFold_170 (lv_at hl 0 rfl) ?_
                    refine lv_iconst (v := 1) hx hb dX3_meetingFold_172 (by decide) ?_
                    refine lv_isub hx hb dX3_meetingFold_173 ?_
                    refine lv_imul hx hb dX3_meetingFold_174 ?_
                    refine lv_iadd hx hb dX3_meetingFold_175 ?_
                    have ho := Option.some.inj hf
                    exact r_iret X hr hP hS ho rfl dX3_meetingFold_176
                  · have hf := (if_pos c18).symm.trans hf
                    refine lv_bipush (v := (-9)) hx hb dX3_meetingFold_150 (by decide) ?_
                    have ho := Option.some.inj hf
                    exact r_iret X hr hP hS ho rfl dX3_meetingFold_152
            refine lv_if_eq (tgt := 100) hx hb dX3_meetingFold_81 (by decide) (fun c19 => ?_) (fun c19 => ?_)
            · have hf := (if_pos c19).symm.trans hf
              refine lv_aload_n hx hb dX3_meetingFold_100 rfl (lv_at hl 1 rfl) ?_
              refine r_get X hP 0 (wX3_g0_0 _ _ _) rfl inc_X3 4 (by decide) fl_X3_25 rfl dX3_meetingFold_101 ?_
              refine lv_iload_n hx hb dX3_meetingFold_104 rfl (lv_at hl 2 rfl) ?_
              obtain ⟨h20, hf⟩ := chk_in hf
              refine r_iald X hP 2 (wX3_g0_2 _ _ _) h20 dX3_meetingFold_105 ?_
              refine lv_aload_n hx hb dX3_meetingFold_106 rfl (lv_at hl 1 rfl) ?_
              refine r_get X hP 0 (wX3_g0_0 _ _ _) rfl inc_X3 4 (by decide) fl_X3_25 rfl dX3_meetingFold_107 ?_
              refine lv_iload_n hx hb dX3_meetingFold_110 rfl (lv_at hl 3 rfl) ?_
              obtain ⟨h21, hf⟩ := chk_in hf
              refine r_iald X hP 2 (wX3_g0_2 _ _ _) h21 dX3_meetingFold_111 ?_
              refine lv_iadd hx hb dX3_meetingFold_112 ?_
              exact J4 ((σ 2 (p1 : Int32).toNatClampNeg) + (σ 2 (p2 : Int32).toNatClampNeg)) hf H locs ls hP hD hS (lv_sub hl [1, 2, 3, 0] rfl)
            · have hf := (if_neg c19).symm.trans hf
              refine lv_aload_n hx hb dX3_meetingFold_84 rfl (lv_at hl 1 rfl) ?_
              refine r_get X hP 0 (wX3_g0_0 _ _ _) rfl inc_X3 3 (by decide) fl_X3_21 rfl dX3_meetingFold_85 ?_
              refine lv_iload_n hx hb dX3_meetingFold_88 rfl (lv_at hl 2 rfl) ?_
              obtain ⟨h22, hf⟩ := chk_in hf
              refine r_iald X hP 1 (wX3_g0_1 _ _ _) h22 dX3_meetingFold_89 ?_
              refine lv_aload_n hx hb dX3_meetingFold_90 rfl (lv_at hl 1 rfl) ?_
              refine r_get X hP 0 (wX3_g0_0 _ _ _) rfl inc_X3 3 (by decide) fl_X3_21 rfl dX3_meetingFold_91 ?_
              refine lv_iload_n hx hb dX3_meetingFold_94 rfl (lv_at hl 3 rfl) ?_
              obtain ⟨h23, hf⟩ := chk_in hf
              refine r_iald X hP 1 (wX3_g0_1 _ _ _) h23 dX3_meetingFold_95 ?_
              refine lv_iadd hx hb dX3_meetingFold_96 ?_
              refine lv_goto (tgt := 113) hx hb dX3_meetingFold_97 (by decide) ?_
              exact J4 ((σ 1 (p1 : Int32).toNatClampNeg) + (σ 1 (p2 : Int32).toNatClampNeg)) hf H locs ls hP hD hS (lv_sub hl [1, 2, 3, 0] rfl)
          refine lv_if_eq (tgt := 76) hx hb dX3_meetingFold_69 (by decide) (fun c24 => ?_) (fun c24 => ?_)
          · have hf := (if_pos c24).symm.trans hf
            refine lv_iconst (v := 1) hx hb dX3_meetingFold_76 (by decide) ?_
            exact J3 1 hf H locs ls hP hD hS (lv_sub hl [1, 2, 3, 0] rfl)
          · have hf := (if_neg c24).symm.trans hf
            refine lv_iconst (v := 0) hx hb dX3_meetingFold_72 (by decide) ?_
            refine lv_goto (tgt := 77) hx hb dX3_meetingFold_73 (by decide) ?_
            exact J3 0 hf H locs ls hP hD hS (lv_sub hl [1, 2, 3, 0] rfl)
        · have hf := (if_neg c10).symm.trans hf
          refine lv_bipush (v := (-9)) hx hb dX3_meetingFold_64 (by decide) ?_
          have ho := Option.some.inj hf
          exact r_iret X hr hP hS ho rfl dX3_meetingFold_66
    refine lv_icmp_ne (tgt := 40) hx hb dX3_meetingFold_33 (by decide) (fun c25 => ?_) (fun c25 => ?_)
    · have hf := (if_neg c25).symm.trans hf
      refine lv_iconst (v := 0) hx hb dX3_meetingFold_40 (by decide) ?_
      exact J2 0 hf H locs ls hP hD hS (lv_sub hl [1, 2, 3, 0] rfl)
    · have hf := (if_pos c25).symm.trans hf
      refine lv_iconst (v := 1) hx hb dX3_meetingFold_36 (by decide) ?_
      refine lv_goto (tgt := 41) hx hb dX3_meetingFold_37 (by decide) ?_
      exact J2 1 hf H locs ls hP hD hS (lv_sub hl [1, 2, 3, 0] rfl)
  refine lv_icmp_ne (tgt := 19) hx hb dX3_meetingFold_12 (by decide) (fun c26 => ?_) (fun c26 => ?_)
  · have hf := (if_neg c26).symm.trans hf
    refine lv_iconst (v := 0) hx hb dX3_meetingFold_19 (by decide) ?_
    exact J1 0 hf H locs ls hP hD hS (lv_sub hl [0, 1, 2] rfl)
  · have hf := (if_pos c26).symm.trans hf
    refine lv_iconst (v := 1) hx hb dX3_meetingFold_15 (by decide) ?_
    refine lv_goto (tgt := 20) hx hb dX3_meetingFold_16 (by decide) ?_
    exact J1 1 hf H locs ls hP hD hS (lv_sub hl [0, 1, 2] rfl)
def rm_X3_thickest : Room := { frames := 1, cells := 0, slots := 0, locals := 21 }
theorem pv_X3_thickest : PkV RX3 yX3_thickest cX3_thickest 3 (some .int) 0 := ⟨im_X3_thickest, se_X3_thickest, ini_X3, cd_X3_thickest, by decide +kernel⟩
set_option maxHeartbeats 4000000 in
set_option maxRecDepth 100000 in
theorem c_X3_thickest (l : Launch) (E : Ev) (a : Nat → Nat) (σ : Sg) {out : Int32} (hf : f_X3_thickest σ = some out) : MtI l yX3_thickest (wl yX3_thickest cX3_thickest 3 (some .int)) rm_X3_thickest E [.ref (a 0)] (wX3 E a σ) out (wX3 E a σ) := by
  refine mt_of (QQ := (fun A => va_Qi (fun x (_ : Unit) => x = out) (fun _ t => QW E (wX3 E a σ) t) A)) (by decide) (Nat.le_of_ble_eq_true rfl) (fun p e s m below meth c A ls X hr hP hD hS hl => ?_)
  have hx := X.1.1
  have hb := X.1.2.1
  have hl : lv_has ls 3 [(0, .ref (a 0))] := hl
  obtain ⟨H, hHe⟩ : ∃ H : Heap, H = s.heap := ⟨_, rfl⟩
  obtain ⟨locs, hLe⟩ : ∃ locs : List Loc, locs = [] := ⟨_, rfl⟩
  have hP : va_P E.1 vwCl (wX3 E a σ) H := by rw [hHe]; exact hP
  have hS : va_S A s.heap H locs := by rw [hHe, hLe]; exact hS
  rw [← hLe, show W p l e rm_X3_thickest s m ([.ref (a 0)] : List Value).toArray below meth c s.heap locs 0 0 = W p l e rm_X3_thickest s m ([.ref (a 0)] : List Value).toArray below meth c H locs 0 0 from by rw [hHe]]
  refine lv_iconst (v := 0) hx hb dX3_thickest_0 (by decide) ?_
  refine lv_istore_n (lv' := [(1, .int 0), (0, .ref (a 0))]) hx hb dX3_thickest_1 rfl hl (by decide) rfl (fun ls hl => ?_)
  refine lv_iconst (v := 0) hx hb dX3_thickest_2 (by decide) ?_
  refine lv_istore_n (lv' := [(2, .int 0), (1, .int 0), (0, .ref (a 0))]) hx hb dX3_thickest_3 rfl hl (by decide) rfl (fun ls hl => ?_)
  have L3 := lc2_ind (o := out) (step := (s_X3_thickest_4 σ)) (fun x1 x2 => ∀ (H : Heap) (locs : List Loc) (ls : Array Slot), va_P E.1 vwCl (wX3 E a σ) H → va_D A (wX3 E a σ) → va_S A s.heap H locs → lv_has ls 3 [(0, .ref (a 0)), (1, .int x1), (2, .int x2)] → W p l e rm_X3_thickest s m ([.ref (a 0)] : List Value).toArray below meth c H locs 0 0 (MQ below (va_Qi (fun x (_ : Unit) => x = out) (fun _ t => QW E (wX3 E a σ) t) A) ([.ref (a 0)] : List Value).toArray s 0 0 A) (F0 m 4 ls [])) (fun x1 x2 k3 ih3 hf H locs ls hP hD hS hl => by
    refine lv_iload_n hx hb dX3_thickest_4 rfl (lv_at hl 2 rfl) ?_
    refine lv_aload_n hx hb dX3_thickest_5 rfl (lv_at hl 0 rfl) ?_
    refine r_get X hP 0 (wX3_g0_0 _ _ _) rfl inc_X3 0 (by decide) fl_X3_9 rfl dX3_thickest_6 ?_
    refine lv_icmp_ge (tgt := 31) hx hb dX3_thickest_9 (by decide) (fun c4 => ?_) (fun c4 => ?_)
    · have hf := (if_pos c4).symm.trans hf
      refine lv_iload_n hx hb dX3_thickest_31 rfl (lv_at hl 1 rfl) ?_
      have ho := Option.some.inj hf
      exact r_iret X hr hP hS ho rfl dX3_thickest_32
    · have hf := (if_neg c4).symm.trans hf
      refine lv_iload_n hx hb dX3_thickest_12 rfl (lv_at hl 1 rfl) ?_
      refine lv_aload_n hx hb dX3_thickest_13 rfl (lv_at hl 0 rfl) ?_
      refine r_get X hP 0 (wX3_g0_0 _ _ _) rfl inc_X3 5 (by decide) fl_X3_28 rfl dX3_thickest_14 ?_
      refine lv_iload_n hx hb dX3_thickest_17 rfl (lv_at hl 2 rfl) ?_
      obtain ⟨h5, hf⟩ := chk_in hf
      refine r_iald X hP 3 (wX3_g0_3 _ _ _) h5 dX3_thickest_18 ?_
      refine lv_iconst (v := 1) hx hb dX3_thickest_19 (by decide) ?_
      refine lv_iadd hx hb dX3_thickest_20 ?_
      refine r_max X hl.1 ml_X3_75 sm_Math_max ini_J9 cd_Math_max (Nat.le_of_ble_eq_true rfl) (Nat.le_of_ble_eq_true rfl) (Nat.le_refl _) (Nat.le_refl _) dX3_thickest_21 ?_
      refine lv_istore_n (lv' := [(1, .int (if x1 < ((σ 3 (x2 : Int32).toNatClampNeg) + 1) then ((σ 3 (x2 : Int32).toNatClampNeg) + 1) else x1)), (0, .ref (a 0)), (2, .int x2)]) hx hb dX3_thickest_24 rfl hl (by decide) rfl (fun ls hl => ?_)
      refine lv_iinc (v := (x2 + 1)) (lv' := [(2, .int (x2 + 1)), (1, .int (if x1 < ((σ 3 (x2 : Int32).toNatClampNeg) + 1) then ((σ 3 (x2 : Int32).toNatClampNeg) + 1) else x1)), (0, .ref (a 0))]) hx hb dX3_thickest_25 hl (k := 2) rfl rfl (by decide) rfl (fun ls hl => ?_)
      refine lv_goto (tgt := 4) hx hb dX3_thickest_28 (by decide) ?_
      exact ih3 (if x1 < ((σ 3 (x2 : Int32).toNatClampNeg) + 1) then ((σ 3 (x2 : Int32).toNatClampNeg) + 1) else x1) (x2 + 1) hf H locs ls hP hD hS (lv_sub hl [2, 1, 0] rfl))
  exact L3 1000 0 0 hf H locs ls hP hD hS (lv_sub hl [2, 1, 0] rfl)
