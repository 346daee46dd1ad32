def rm_X6_mayBegin : Room := { frames := 1, cells := 0, slots := 0, locals := 20 }
theorem pv_X6_mayBegin : PkV RX6 yX6_mayBegin cX6_mayBegin 2 (some .boolean) 1 := ⟨im_X6_mayBegin, se_X6_mayBegin, ini_X6, cd_X6_mayBegin, by decide +kernel⟩
set_option maxHeartbeats 4000000 in
set_option maxRecDepth 100000 in
theorem c_X6_mayBegin (l : Launch) (E : Ev) (a : Nat → Nat) (σ : Sg) (p1 : Int32) {out : Int32} (hf : f_X6_mayBegin σ p1 = some out) : MtI l yX6_mayBegin (wl yX6_mayBegin cX6_mayBegin 2 (some .boolean)) rm_X6_mayBegin E [.ref (a 0), .int p1] (wX6 E a σ) out (wX6 E a σ) := by
  refine mt_of (QQ := (fun A => va_Qi (fun x (_ : Unit) => x = out) (fun _ t => QW E (wX6 E a σ) t) A)) (by decide) (Nat.le_of_ble_eq_true rfl) (fun p e s m below meth c A ls X hr hP hD hS hl => ?_)
  have hx := X.1.1
  have hb := X.1.2.1
  have hl : lv_has ls 2 [(0, .ref (a 0)), (1, .int p1)] := hl
  obtain ⟨H, hHe⟩ : ∃ H : Heap, H = s.heap := ⟨_, rfl⟩
  obtain ⟨locs, hLe⟩ : ∃ locs : List Loc, locs = [] := ⟨_, rfl⟩
  have hP : va_P E.1 vwCl (wX6 E a σ) H := by rw [hHe]; exact hP
  have hS : va_S A s.heap H locs := by rw [hHe, hLe]; exact hS
  rw [← hLe, show W p l e rm_X6_mayBegin s m ([.ref (a 0), .int p1] : List Value).toArray below meth c s.heap locs 0 0 = W p l e rm_X6_mayBegin s m ([.ref (a 0), .int p1] : List Value).toArray below meth c H locs 0 0 from by rw [hHe]]
  refine lv_iload_n hx hb dX6_mayBegin_0 rfl (lv_at hl 1 rfl) ?_
  by_cases c1 : p1 = 4
  · have hf := (if_pos c1).symm.trans hf
    refine lv_tableIn (off := 31) (tgt := 32) hx hb dX6_mayBegin_1 (by rw [c1]; decide) (by rw [c1]; decide) (by rw [c1]; rfl) (by decide) ?_
    refine lv_aload_n hx hb dX6_mayBegin_32 rfl (lv_at hl 0 rfl) ?_
    refine r_get X hP 0 (wX6_g0_0 _ _ _) rfl inc_X6 2 (by decide) fl_X6_25 rfl dX6_mayBegin_33 ?_
    refine lv_if_ne (tgt := 43) hx hb dX6_mayBegin_36 (by decide) (fun c2 => ?_) (fun c2 => ?_)
    · have hf := (if_neg c2).symm.trans hf
      refine lv_iconst (v := 0) hx hb dX6_mayBegin_43 (by decide) ?_
      have ho := Option.some.inj hf
      exact r_zret X hr hP hS rfl ho rfl dX6_mayBegin_44
    · have hf := (if_pos c2).symm.trans hf
      refine lv_iconst (v := 1) hx hb dX6_mayBegin_39 (by decide) ?_
      refine lv_goto (tgt := 44) hx hb dX6_mayBegin_40 (by decide) ?_
      have ho := Option.some.inj hf
      exact r_zret X hr hP hS rfl ho rfl dX6_mayBegin_44
  · have hf := (if_neg c1).symm.trans hf
    by_cases c3 : p1 = 5
    · have hf := (if_pos c3).symm.trans hf
      refine lv_tableIn (off := 44) (tgt := 45) hx hb dX6_mayBegin_1 (by rw [c3]; decide) (by rw [c3]; decide) (by rw [c3]; rfl) (by decide) ?_
      refine lv_iconst (v := 1) hx hb dX6_mayBegin_45 (by decide) ?_
      have ho := Option.some.inj hf
      exact r_zret X hr hP hS rfl ho rfl dX6_mayBegin_46
    · have hf := (if_neg c3).symm.trans hf
      by_cases c4 : p1 = 6
      · have hf := (if_pos c4).symm.trans hf
        refine lv_tableIn (off := 46) (tgt := 47) hx hb dX6_mayBegin_1 (by rw [c4]; decide) (by rw [c4]; decide) (by rw [c4]; rfl) (by decide) ?_
        refine lv_aload_n hx hb dX6_mayBegin_47 rfl (lv_at hl 0 rfl) ?_
        refine r_get X hP 0 (wX6_g0_0 _ _ _) rfl inc_X6 1 (by decide) fl_X6_21 rfl dX6_mayBegin_48 ?_
        refine r_get X hP 3 (wX6_g0_3 _ _ _) rfl inc_X1 4 (by decide) fl_X6_74 rfl dX6_mayBegin_51 ?_
        obtain ⟨z5, hz5, hf⟩ := obd hf
        refine cV_roI X (As := []) (rest := []) (c_X4_isFull l E (sg_off a 5) (sg_off σ 5) hz5) pv_X4_isFull ml_X6_78 ⟨rfl, rfl⟩ ⟨(Nat.le_of_ble_eq_true rfl), (Nat.le_of_ble_eq_true rfl)⟩ hP hD hS (wX6_b_0_5_X4 _ _ _) rfl (wX4_g0_0 _ _ _) rfl rfl hl.1 rfl (Nat.le_of_ble_eq_true rfl) dX6_mayBegin_54 ⟨Nat.le_refl _, Nat.le_refl _⟩ (fun H locs hP hS => ?_)
        refine lv_if_ne (tgt := 64) hx hb dX6_mayBegin_57 (by decide) (fun c6 => ?_) (fun c6 => ?_)
        · have hf := (if_neg c6).symm.trans hf
          refine lv_iconst (v := 0) hx hb dX6_mayBegin_64 (by decide) ?_
          have ho := Option.some.inj hf
          exact r_zret X hr hP hS rfl ho rfl dX6_mayBegin_65
        · have hf := (if_pos c6).symm.trans hf
          refine lv_iconst (v := 1) hx hb dX6_mayBegin_60 (by decide) ?_
          refine lv_goto (tgt := 65) hx hb dX6_mayBegin_61 (by decide) ?_
          have ho := Option.some.inj hf
          exact r_zret X hr hP hS rfl ho rfl dX6_mayBegin_65
      · have hf := (if_neg c4).symm.trans hf
        by_cases c7 : p1 = 7
        · have hf := (if_pos c7).symm.trans hf
          refine lv_tableIn (off := 65) (tgt := 66) hx hb dX6_mayBegin_1 (by rw [c7]; decide) (by rw [c7]; decide) (by rw [c7]; rfl) (by decide) ?_
          refine lv_aload_n hx hb dX6_mayBegin_66 rfl (lv_at hl 0 rfl) ?_
          refine r_get X hP 0 (wX6_g0_0 _ _ _) rfl inc_X6 7 (by decide) fl_X6_41 rfl dX6_mayBegin_67 ?_
          refine lv_if_ne (tgt := 77) hx hb dX6_mayBegin_70 (by decide) (fun c8 => ?_) (fun c8 => ?_)
          · have hf := (if_neg c8).symm.trans hf
            refine lv_iconst (v := 0) hx hb dX6_mayBegin_77 (by decide) ?_
            have ho := Option.some.inj hf
            exact r_zret X hr hP hS rfl ho rfl dX6_mayBegin_78
          · have hf := (if_pos c8).symm.trans hf
            refine lv_iconst (v := 1) hx hb dX6_mayBegin_73 (by decide) ?_
            refine lv_goto (tgt := 78) hx hb dX6_mayBegin_74 (by decide) ?_
            have ho := Option.some.inj hf
            exact r_zret X hr hP hS rfl ho rfl dX6_mayBegin_78
        · have hf := (if_neg c7).symm.trans hf
          refine lv_tableOut (tgt := 79) hx hb dX6_mayBegin_1 (tsw_out (fun j h1 h2 he => by
            have h3 : j = 4 ∨ j = 5 ∨ j = 6 ∨ j = 7 := by omega
            rcases h3 with rfl | rfl | rfl | rfl
            · exact c1 he
            · exact c3 he
            · exact c4 he
            · exact c7 he)) (by decide) ?_
          refine lv_iconst (v := 0) hx hb dX6_mayBegin_79 (by decide) ?_
          have ho := Option.some.inj hf
          exact r_zret X hr hP hS rfl ho rfl dX6_mayBegin_80
def rm_X6_mostNumber : Room := { frames := 0, cells := 0, slots := 0, locals := 0 }
theorem pv_X6_mostNumber : PkV RX6 yX6_mostNumber cX6_mostNumber 2 (some .int) 0 := ⟨im_X6_mostNumber, se_X6_mostNumber, ini_X6, cd_X6_mostNumber, by decide +kernel⟩
set_option maxHeartbeats 4000000 in
set_option maxRecDepth 100000 in
theorem c_X6_mostNumber (l : Launch) (E : Ev) (a : Nat → Nat) (σ : Sg) {out : Int32} (hf : f_X6_mostNumber σ = some out) : MtI l yX6_mostNumber (wl yX6_mostNumber cX6_mostNumber 2 (some .int)) rm_X6_mostNumber E [.ref (a 0)] (wX6 E a σ) out (wX6 E a σ) := by
  refine mt_of (QQ := (fun A => va_Qi (fun x (_ : Unit) => x = out) (fun _ t => QW E (wX6 E a σ) t) A)) (by decide) (Nat.le_of_ble_eq_true rfl) (fun p e s m below meth c A ls X hr hP hD hS hl => ?_)
  have hx := X.1.1
  have hb := X.1.2.1
  have hl : lv_has ls 2 [(0, .ref (a 0))] := hl
  obtain ⟨H, hHe⟩ : ∃ H : Heap, H = s.heap := ⟨_, rfl⟩
  obtain ⟨locs, hLe⟩ : ∃ locs : List Loc, locs = [] := ⟨_, rfl⟩
  have hP : va_P E.1 vwCl (wX6 E a σ) H := by rw [hHe]; exact hP
  have hS : va_S A s.heap H locs := by rw [hHe, hLe]; exact hS
  rw [← hLe, show W p l e rm_X6_mostNumber s m ([.ref (a 0)] : List Value).toArray below meth c s.heap locs 0 0 = W p l e rm_X6_mostNumber s m ([.ref (a 0)] : List Value).toArray below meth c H locs 0 0 from by rw [hHe]]
  refine lv_aload_n hx hb dX6_mostNumber_0 rfl (lv_at hl 0 rfl) ?_
  refine r_get X hP 0 (wX6_g0_0 _ _ _) rfl inc_X6 3 (by decide) fl_X6_29 rfl dX6_mostNumber_1 ?_
  refine lv_iconst (v := 4) hx hb dX6_mostNumber_4 (by decide) ?_
  refine lv_icmp_ne (tgt := 10) hx hb dX6_mostNumber_5 (by decide) (fun c1 => ?_) (fun c1 => ?_)
  · have hf := (if_neg c1).symm.trans hf
    refine lv_aload_n hx hb dX6_mostNumber_10 rfl (lv_at hl 0 rfl) ?_
    refine r_get X hP 0 (wX6_g0_0 _ _ _) rfl inc_X6 3 (by decide) fl_X6_29 rfl dX6_mostNumber_11 ?_
    refine lv_bipush (v := 6) hx hb dX6_mostNumber_14 (by decide) ?_
    have J1 : ∀ (x2 : Int32), j_X6_mostNumber_1 σ x2 = some out → ∀ (H : Heap) (locs : List Loc) (ls : Array Slot), va_P E.1 vwCl (wX6 E a σ) H → va_D A (wX6 E a σ) → va_S A s.heap H locs → lv_has ls 2 [(0, .ref (a 0))] → W p l e rm_X6_mostNumber s m ([.ref (a 0)] : List Value).toArray below meth c H locs 0 0 (MQ below (va_Qi (fun x (_ : Unit) => x = out) (fun _ t => QW E (wX6 E a σ) t) A) ([.ref (a 0)] : List Value).toArray s 0 0 A) (F0 m 39 ls [.int x2]) := by
      intro x2 hf H locs ls hP hD hS hl
      refine lv_istore_n (lv' := [(1, .int x2), (0, .ref (a 0))]) hx hb dX6_mostNumber_39 rfl hl (by decide) rfl (fun ls hl => ?_)
      refine lv_iload_n hx hb dX6_mostNumber_40 rfl (lv_at hl 0 rfl) ?_
      refine lv_if_eq (tgt := 64) hx hb dX6_mostNumber_41 (by decide) (fun c3 => ?_) (fun c3 => ?_)
      · have hf := (if_pos c3).symm.trans hf
        refine lv_bipush (v := 9) hx hb dX6_mostNumber_64 (by decide) ?_
        have ho := Option.some.inj hf
        exact r_iret X hr hP hS ho rfl dX6_mostNumber_66
      · have hf := (if_neg c3).symm.trans hf
        refine lv_aload_n hx hb dX6_mostNumber_44 rfl (lv_at hl 1 rfl) ?_
        refine r_get X hP 0 (wX6_g0_0 _ _ _) rfl inc_X6 1 (by decide) fl_X6_21 rfl dX6_mostNumber_45 ?_
        refine r_get X hP 3 (wX6_g0_3 _ _ _) rfl inc_X1 0 (by decide) fl_X6_90 rfl dX6_mostNumber_48 ?_
        refine lv_aload_n hx hb dX6_mostNumber_51 rfl (lv_at hl 1 rfl) ?_
        refine r_get X hP 0 (wX6_g0_0 _ _ _) rfl inc_X6 1 (by decide) fl_X6_21 rfl dX6_mostNumber_52 ?_
        refine r_get X hP 3 (wX6_g0_3 _ _ _) rfl inc_X1 1 (by decide) fl_X6_93 rfl dX6_mostNumber_55 ?_
        refine lv_imul hx hb dX6_mostNumber_58 ?_
        refine lv_iconst (v := 1) hx hb dX6_mostNumber_59 (by decide) ?_
        refine lv_isub hx hb dX6_mostNumber_60 ?_
        refine lv_goto (tgt := 66) hx hb dX6_mostNumber_61 (by decide) ?_
        have ho := Option.some.inj hf
        exact r_iret X hr hP hS ho rfl dX6_mostNumber_66
    refine lv_icmp_eq (tgt := 34) hx hb dX6_mostNumber_16 (by decide) (fun c4 => ?_) (fun c4 => ?_)
    · have hf := (if_pos c4).symm.trans hf
      refine lv_iconst (v := 1) hx hb dX6_mostNumber_34 (by decide) ?_
      refine lv_goto (tgt := 39) hx hb dX6_mostNumber_35 (by decide) ?_
      exact J1 1 hf H locs ls hP hD hS (lv_sub hl [0] rfl)
    · have hf := (if_neg c4).symm.trans hf
      refine lv_aload_n hx hb dX6_mostNumber_19 rfl (lv_at hl 0 rfl) ?_
      refine r_get X hP 0 (wX6_g0_0 _ _ _) rfl inc_X6 3 (by decide) fl_X6_29 rfl dX6_mostNumber_20 ?_
      refine lv_iconst (v := 5) hx hb dX6_mostNumber_23 (by decide) ?_
      refine lv_icmp_ne (tgt := 38) hx hb dX6_mostNumber_24 (by decide) (fun c5 => ?_) (fun c5 => ?_)
      · have hf := (if_neg c5).symm.trans hf
        refine lv_iconst (v := 0) hx hb dX6_mostNumber_38 (by decide) ?_
        exact J1 0 hf H locs ls hP hD hS (lv_sub hl [0] rfl)
      · have hf := (if_pos c5).symm.trans hf
        refine lv_aload_n hx hb dX6_mostNumber_27 rfl (lv_at hl 0 rfl) ?_
        refine r_get X hP 0 (wX6_g0_0 _ _ _) rfl inc_X6 4 (by decide) fl_X6_32 rfl dX6_mostNumber_28 ?_
        refine lv_if_ne (tgt := 38) hx hb dX6_mostNumber_31 (by decide) (fun c6 => ?_) (fun c6 => ?_)
        · have hf := (if_neg c6).symm.trans hf
          refine lv_iconst (v := 0) hx hb dX6_mostNumber_38 (by decide) ?_
          exact J1 0 hf H locs ls hP hD hS (lv_sub hl [0] rfl)
        · have hf := (if_pos c6).symm.trans hf
          refine lv_iconst (v := 1) hx hb dX6_mostNumber_34 (by decide) ?_
          refine lv_goto (tgt := 39) hx hb dX6_mostNumber_35 (by decide) ?_
          exact J1 1 hf H locs ls hP hD hS (lv_sub hl [0] rfl)
  · have hf := (if_pos c1).symm.trans hf
    refine lv_iconst (v := 4) hx hb dX6_mostNumber_8 (by decide) ?_
    have ho := Option.some.inj hf
    exact r_iret X hr hP hS ho rfl dX6_mostNumber_9
def rm_X6_takesEnd : Room := { frames := 2, cells := 0, slots := 0, locals := 42 }
theorem pv_X6_takesEnd : PkV RX6 yX6_takesEnd cX6_takesEnd 1 (some .boolean) 0 := ⟨im_X6_takesEnd, se_X6_takesEnd, ini_X6, cd_X6_takesEnd, by decide +kernel⟩
set_option maxHeartbeats 4000000 in
set_option maxRecDepth 100000 in
theorem c_X6_takesEnd (l : Launch) (E : Ev) (a : Nat → Nat) (σ : Sg) {out : Int32 × Sg} (hf : f_X6_takesEnd σ = some out) : MtI l yX6_takesEnd (wl yX6_takesEnd cX6_takesEnd 1 (some .boolean)) rm_X6_takesEnd E [.ref (a 0)] (wX6 E a σ) out.1 (wX6 E a out.2) := by
  refine mt_of (QQ := (fun A => va_Qi (fun x (_ : Unit) => x = out.1) (fun _ t => QW E (wX6 E a out.2) t) A)) (by decide) (Nat.le_of_ble_eq_true rfl) (fun p e s m below meth c A ls X hr hP hD hS hl => ?_)
  have hx := X.1.1
  have hb := X.1.2.1
  have hl : lv_has ls 1 [(0, .ref (a 0))] := hl
  obtain ⟨H, hHe⟩ : ∃ H : Heap, H = s.heap := ⟨_, rfl⟩
  obtain ⟨locs, hLe⟩ : ∃ locs : List Loc, locs = [] := ⟨_, rfl⟩
  have hP : va_P E.1 vwCl (wX6 E a σ) H := by rw [hHe]; exact hP
  have hS : va_S A s.heap H locs := by rw [hHe, hLe]; exact hS
  rw [← hLe, show W p l e rm_X6_takesEnd s m ([.ref (a 0)] : List Value).toArray below meth c s.heap locs 0 0 = W p l e rm_X6_takesEnd s m ([.ref (a 0)] : List Value).toArray below meth c H locs 0 0 from by rw [hHe]]
  refine lv_aload_n hx hb dX6_takesEnd_0 rfl (lv_at hl 0 rfl) ?_
  refine r_get X hP 0 (wX6_g0_0 _ _ _) rfl inc_X6 0 (by decide) fl_X6_12 rfl dX6_takesEnd_1 ?_
  refine r_get X hP 1 (wX6_g0_1 _ _ _) rfl inc_X7 4 (by decide) fl_X6_54 rfl dX6_takesEnd_4 ?_
  refine lv_iconst (v := 3) hx hb dX6_takesEnd_7 (by decide) ?_
  refine lv_icmp_eq (tgt := 13) hx hb dX6_takesEnd_8 (by decide) (fun c1 => ?_) (fun c1 => ?_)
  · have hf := (if_pos c1).symm.trans hf
    refine lv_aload_n hx hb dX6_takesEnd_13 rfl (lv_at hl 0 rfl) ?_
    refine r_get X hP 0 (wX6_g0_0 _ _ _) rfl inc_X6 3 (by decide) fl_X6_29 rfl dX6_takesEnd_14 ?_
    refine lv_iconst (v := 4) hx hb dX6_takesEnd_17 (by decide) ?_
    have J1 : ∀ (g2 : Sg), j_X6_takesEnd_1 g2 = some out → ∀ (H : Heap) (locs : List Loc) (ls : Array Slot), va_P E.1 vwCl (wX6 E a g2) H → va_D A (wX6 E a g2) → va_S A s.heap H locs → lv_has ls 1 [(0, .ref (a 0))] → W p l e rm_X6_takesEnd s m ([.ref (a 0)] : List Value).toArray below meth c H locs 0 0 (MQ below (va_Qi (fun x (_ : Unit) => x = out.1) (fun _ t => QW E (wX6 E a out.2) t) A) ([.ref (a 0)] : List Value).toArray s 0 0 A) (F0 m 118 ls []) := by
      intro g2 hf H locs ls hP hD hS hl
      refine lv_aload_n hx hb dX6_takesEnd_118 rfl (lv_at hl 0 rfl) ?_
      refine lv_iconst (v := 0) hx hb dX6_takesEnd_119 (by decide) ?_
      refine r_put X hP hD hS 0 (wX6_g0_0 _ _ _) rfl inc_X6 tyX6 tyX6_ok nmX6 3 (by decide) fl_X6_29 rfl (ty := .int) rfl rfl rfl (Nat.le_of_ble_eq_true rfl) (wX6_s0_0_3 _ _ _ _) dX6_takesEnd_120 (fun H locs hP hD hS => ?_)
      refine lv_aload_n hx hb dX6_takesEnd_123 rfl (lv_at hl 0 rfl) ?_
      refine lv_dup hx hb dX6_takesEnd_124 rfl ?_
      refine r_get X hP 0 (wX6_g0_0 _ _ _) rfl inc_X6 2 (by decide) fl_X6_25 rfl dX6_takesEnd_125 ?_
      refine lv_iconst (v := 1) hx hb dX6_takesEnd_128 (by decide) ?_
      refine lv_iadd hx hb dX6_takesEnd_129 ?_
      refine r_put X hP hD hS 0 (wX6_g0_0 _ _ _) rfl inc_X6 tyX6 tyX6_ok nmX6 2 (by decide) fl_X6_25 rfl (ty := .int) rfl rfl rfl (Nat.le_of_ble_eq_true rfl) (wX6_s0_0_2 _ _ _ _) dX6_takesEnd_130 (fun H locs hP hD hS => ?_)
      refine lv_iconst (v := 1) hx hb dX6_takesEnd_133 (by decide) ?_
      have ho := Option.some.inj hf
      have hv : 1 = out.1 := by rw [← ho]
      have hw := congrArg (fun o : Int32 × Sg => (wX6 E a o.2)) ho
      exact r_zret X hr hP hS rfl hv hw dX6_takesEnd_134
    refine lv_icmp_ne (tgt := 46) hx hb dX6_takesEnd_18 (by decide) (fun c3 => ?_) (fun c3 => ?_)
    · have hf := (if_neg c3).symm.trans hf
      refine lv_aload_n hx hb dX6_takesEnd_46 rfl (lv_at hl 0 rfl) ?_
      refine r_get X hP 0 (wX6_g0_0 _ _ _) rfl inc_X6 3 (by decide) fl_X6_29 rfl dX6_takesEnd_47 ?_
      refine lv_iconst (v := 5) hx hb dX6_takesEnd_50 (by decide) ?_
      refine lv_icmp_ne (tgt := 72) hx hb dX6_takesEnd_51 (by decide) (fun c4 => ?_) (fun c4 => ?_)
      · have hf := (if_neg c4).symm.trans hf
        refine lv_aload_n hx hb dX6_takesEnd_72 rfl (lv_at hl 0 rfl) ?_
        refine r_get X hP 0 (wX6_g0_0 _ _ _) rfl inc_X6 3 (by decide) fl_X6_29 rfl dX6_takesEnd_73 ?_
        refine lv_bipush (v := 6) hx hb dX6_takesEnd_76 (by decide) ?_
        refine lv_icmp_ne (tgt := 102) hx hb dX6_takesEnd_78 (by decide) (fun c5 => ?_) (fun c5 => ?_)
        · have hf := (if_neg c5).symm.trans hf
          refine lv_aload_n hx hb dX6_takesEnd_102 rfl (lv_at hl 0 rfl) ?_
          refine r_get X hP 0 (wX6_g0_0 _ _ _) rfl inc_X6 1 (by decide) fl_X6_21 rfl dX6_takesEnd_103 ?_
          refine lv_aload_n hx hb dX6_takesEnd_106 rfl (lv_at hl 0 rfl) ?_
          refine r_get X hP 0 (wX6_g0_0 _ _ _) rfl inc_X6 5 (by decide) fl_X6_35 rfl dX6_takesEnd_107 ?_
          refine r_put X hP hD hS 3 (wX6_g0_3 _ _ _) rfl inc_X1 tyX1 tyX1_ok nmX1 2 (by decide) fl_X6_103 rfl (ty := .int) rfl rfl rfl (Nat.le_of_ble_eq_true rfl) (wX6_s0_3_2 _ _ _ _) dX6_takesEnd_110 (fun H locs hP hD hS => ?_)
          refine lv_aload_n hx hb dX6_takesEnd_113 rfl (lv_at hl 0 rfl) ?_
          refine lv_iconst (v := 1) hx hb dX6_takesEnd_114 (by decide) ?_
          refine r_put X hP hD hS 0 (wX6_g0_0 _ _ _) rfl inc_X6 tyX6 tyX6_ok nmX6 7 (by decide) fl_X6_41 rfl (ty := .boolean) rfl rfl rfl (Nat.le_of_ble_eq_true rfl) (wX6_s0_0_7 _ _ _ _) dX6_takesEnd_115 (fun H locs hP hD hS => ?_)
          exact J1 (sg_st (sg_st σ 3 2 (σ 0 5)) 0 7 1) hf H locs ls hP hD hS (lv_sub hl [0] rfl)
        · have hf := (if_pos c5).symm.trans hf
          refine lv_aload_n hx hb dX6_takesEnd_81 rfl (lv_at hl 0 rfl) ?_
          refine r_get X hP 0 (wX6_g0_0 _ _ _) rfl inc_X6 1 (by decide) fl_X6_21 rfl dX6_takesEnd_82 ?_
          refine r_get X hP 3 (wX6_g0_3 _ _ _) rfl inc_X1 4 (by decide) fl_X6_74 rfl dX6_takesEnd_85 ?_
          refine lv_aload_n hx hb dX6_takesEnd_88 rfl (lv_at hl 0 rfl) ?_
          refine r_get X hP 0 (wX6_g0_0 _ _ _) rfl inc_X6 5 (by decide) fl_X6_35 rfl dX6_takesEnd_89 ?_
          refine lv_aload_n hx hb dX6_takesEnd_92 rfl (lv_at hl 0 rfl) ?_
          refine r_get X hP 0 (wX6_g0_0 _ _ _) rfl inc_X6 6 (by decide) fl_X6_38 rfl dX6_takesEnd_93 ?_
          obtain ⟨z6, hz6, hf⟩ := obd hf
          refine cV_putV X (As := [.int (σ 0 5), .int (σ 0 6)]) (rest := []) (c_X4_add l E (sg_off a 5) (sg_off σ 5) (σ 0 5) (σ 0 6) hz6) pv_X4_add ml_X6_100 ⟨rfl, rfl⟩ ⟨(Nat.le_of_ble_eq_true rfl), (Nat.le_of_ble_eq_true rfl)⟩ hP hD hS (wX6_b_0_5_X4 _ _ _) rfl (wX4_g0_0 _ _ _) rfl (wX6_p_0_5_X4 _ _ _ _) rfl hl.1 rfl (Nat.le_of_ble_eq_true rfl) dX6_takesEnd_96 ⟨Nat.le_refl _, Nat.le_refl _⟩ (fun H locs hP hD hS => ?_)
          refine lv_goto (tgt := 118) hx hb dX6_takesEnd_99 (by decide) ?_
          exact J1 (sg_sp σ 5 3 z6) hf H locs ls hP hD hS (lv_sub hl [0] rfl)
      · have hf := (if_pos c4).symm.trans hf
        refine lv_aload_n hx hb dX6_takesEnd_54 rfl (lv_at hl 0 rfl) ?_
        refine r_get X hP 0 (wX6_g0_0 _ _ _) rfl inc_X6 1 (by decide) fl_X6_21 rfl dX6_takesEnd_55 ?_
        refine lv_aload_n hx hb dX6_takesEnd_58 rfl (lv_at hl 0 rfl) ?_
        refine r_get X hP 0 (wX6_g0_0 _ _ _) rfl inc_X6 5 (by decide) fl_X6_35 rfl dX6_takesEnd_59 ?_
        refine lv_aload_n hx hb dX6_takesEnd_62 rfl (lv_at hl 0 rfl) ?_
        refine r_get X hP 0 (wX6_g0_0 _ _ _) rfl inc_X6 6 (by decide) fl_X6_38 rfl dX6_takesEnd_63 ?_
        obtain ⟨z7, hz7, hf⟩ := obd hf
        refine cV_putV X (As := [.int (σ 0 5), .int (σ 0 6)]) (rest := []) (c_X1_setWorth l E (sg_off a 3) (sg_off σ 3) (σ 0 5) (σ 0 6) hz7) pv_X1_setWorth ml_X6_96 ⟨rfl, rfl⟩ ⟨(Nat.le_of_ble_eq_true rfl), (Nat.le_of_ble_eq_true rfl)⟩ hP hD hS (wX6_b_0_3_X1 _ _ _) rfl (wX1_g0_0 _ _ _) rfl (wX6_p_0_3_X1 _ _ _ _) rfl hl.1 rfl (Nat.le_of_ble_eq_true rfl) dX6_takesEnd_66 ⟨Nat.le_refl _, Nat.le_refl _⟩ (fun H locs hP hD hS => ?_)
        refine lv_goto (tgt := 118) hx hb dX6_takesEnd_69 (by decide) ?_
        exact J1 (sg_sp σ 3 5 z7) hf H locs ls hP hD hS (lv_sub hl [0] rfl)
    · have hf := (if_pos c3).symm.trans hf
      refine lv_aload_n hx hb dX6_takesEnd_21 rfl (lv_at hl 0 rfl) ?_
      refine r_get X hP 0 (wX6_g0_0 _ _ _) rfl inc_X6 1 (by decide) fl_X6_21 rfl dX6_takesEnd_22 ?_
      refine lv_aload_n hx hb dX6_takesEnd_25 rfl (lv_at hl 0 rfl) ?_
      refine r_get X hP 0 (wX6_g0_0 _ _ _) rfl inc_X6 5 (by decide) fl_X6_35 rfl dX6_takesEnd_26 ?_
      refine r_put X hP hD hS 3 (wX6_g0_3 _ _ _) rfl inc_X1 tyX1 tyX1_ok nmX1 0 (by decide) fl_X6_90 rfl (ty := .int) rfl rfl rfl (Nat.le_of_ble_eq_true rfl) (wX6_s0_3_0 _ _ _ _) dX6_takesEnd_29 (fun H locs hP hD hS => ?_)
      refine lv_aload_n hx hb dX6_takesEnd_32 rfl (lv_at hl 0 rfl) ?_
      refine r_get X hP 0 (wX6_g0_0 _ _ _) rfl inc_X6 1 (by decide) fl_X6_21 rfl dX6_takesEnd_33 ?_
      refine lv_aload_n hx hb dX6_takesEnd_36 rfl (lv_at hl 0 rfl) ?_
      refine r_get X hP 0 (wX6_g0_0 _ _ _) rfl inc_X6 6 (by decide) fl_X6_38 rfl dX6_takesEnd_37 ?_
      refine r_put X hP hD hS 3 (wX6_g0_3 _ _ _) rfl inc_X1 tyX1 tyX1_ok nmX1 1 (by decide) fl_X6_93 rfl (ty := .int) rfl rfl rfl (Nat.le_of_ble_eq_true rfl) (wX6_s0_3_1 _ _ _ _) dX6_takesEnd_40 (fun H locs hP hD hS => ?_)
      refine lv_goto (tgt := 118) hx hb dX6_takesEnd_43 (by decide) ?_
      exact J1 (sg_st (sg_st σ 3 0 (σ 0 5)) 3 1 ((sg_st σ 3 0 (σ 0 5)) 0 6)) hf H locs ls hP hD hS (lv_sub hl [0] rfl)
  · have hf := (if_neg c1).symm.trans hf
    refine lv_iconst (v := 0) hx hb dX6_takesEnd_11 (by decide) ?_
    have ho := Option.some.inj hf
    have hv : 0 = out.1 := by rw [← ho]
    have hw := congrArg (fun o : Int32 × Sg => (wX6 E a o.2)) ho
    exact r_zret X hr hP hS rfl hv hw dX6_takesEnd_12
def rm_X6_takesNumber : Room := { frames := 1, cells := 0, slots := 0, locals := 21 }
theorem pv_X6_takesNumber : PkV RX6 yX6_takesNumber cX6_takesNumber 2 (some .boolean) 0 := ⟨im_X6_takesNumber, se_X6_takesNumber, ini_X6, cd_X6_takesNumber, by decide +kernel⟩
set_option maxHeartbeats 4000000 in
set_option maxRecDepth 100000 in
theorem c_X6_takesNumber (l : Launch) (E : Ev) (a : Nat → Nat) (σ : Sg) {out : Int32 × Sg} (hf : f_X6_takesNumber σ = some out) : MtI l yX6_takesNumber (wl yX6_takesNumber cX6_takesNumber 2 (some .boolean)) rm_X6_takesNumber E [.ref (a 0)] (wX6 E a σ) out.1 (wX6 E a out.2) := by
  refine mt_of (QQ := (fun A => va_Qi (fun x (_ : Unit) => x = out.1) (fun _ t => QW E (wX6 E a out.2) t) A)) (by decide) (Nat.le_of_ble_eq_true rfl) (fun p e s m below meth c A ls X hr hP hD hS hl => ?_)
  have hx := X.1.1
  have hb := X.1.2.1
  have hl : lv_has ls 2 [(0, .ref (a 0))] := hl
  obtain ⟨H, hHe⟩ : ∃ H : Heap, H = s.heap := ⟨_, rfl⟩
  obtain ⟨locs, hLe⟩ : ∃ locs : List Loc, locs = [] := ⟨_, rfl⟩
  have hP : va_P E.1 vwCl (wX6 E a σ) H := by rw [hHe]; exact hP
  have hS : va_S A s.heap H locs := by rw [hHe, hLe]; exact hS
  rw [← hLe, show W p l e rm_X6_takesNumber s m ([.ref (a 0)] : List Value).toArray below meth c s.heap locs 0 0 = W p l e rm_X6_takesNumber s m ([.ref (a 0)] : List Value).toArray below meth c H locs 0 0 from by rw [hHe]]
  refine lv_aload_n hx hb dX6_takesNumber_0 rfl (lv_at hl 0 rfl) ?_
  refine r_get X hP 0 (wX6_g0_0 _ _ _) rfl inc_X6 3 (by decide) fl_X6_29 rfl dX6_takesNumber_1 ?_
  refine lv_iconst (v := 4) hx hb dX6_takesNumber_4 (by decide) ?_
  have J1 : ∀ (x1 : Int32), j_X6_takesNumber_1 σ x1 = some out → ∀ (H : Heap) (locs : List Loc) (ls : Array Slot), va_P E.1 vwCl (wX6 E a σ) H → va_D A (wX6 E a σ) → va_S A s.heap H locs → lv_has ls 2 [(0, .ref (a 0))] → W p l e rm_X6_takesNumber s m ([.ref (a 0)] : List Value).toArray below meth c H locs 0 0 (MQ below (va_Qi (fun x (_ : Unit) => x = out.1) (fun _ t => QW E (wX6 E a out.2) t) A) ([.ref (a 0)] : List Value).toArray s 0 0 A) (F0 m 22 ls [.int x1]) := by
    intro x1 hf H locs ls hP hD hS hl
    refine lv_istore_n (lv' := [(1, .int x1), (0, .ref (a 0))]) hx hb dX6_takesNumber_22 rfl hl (by decide) rfl (fun ls hl => ?_)
    refine lv_aload_n hx hb dX6_takesNumber_23 rfl (lv_at hl 1 rfl) ?_
    refine r_get X hP 0 (wX6_g0_0 _ _ _) rfl inc_X6 0 (by decide) fl_X6_12 rfl dX6_takesNumber_24 ?_
    refine r_get X hP 1 (wX6_g0_1 _ _ _) rfl inc_X7 4 (by decide) fl_X6_54 rfl dX6_takesNumber_27 ?_
    refine lv_iconst (v := 2) hx hb dX6_takesNumber_30 (by decide) ?_
    refine lv_icmp_ne (tgt := 59) hx hb dX6_takesNumber_31 (by decide) (fun c2 => ?_) (fun c2 => ?_)
    · have hf := (if_neg c2).symm.trans hf
      refine lv_iconst (v := 0) hx hb dX6_takesNumber_59 (by decide) ?_
      have ho := Option.some.inj hf
      have hv : 0 = out.1 := by rw [← ho]
      have hw := congrArg (fun o : Int32 × Sg => (wX6 E a o.2)) ho
      exact r_zret X hr hP hS rfl hv hw dX6_takesNumber_60
    · have hf := (if_pos c2).symm.trans hf
      refine lv_aload_n hx hb dX6_takesNumber_34 rfl (lv_at hl 1 rfl) ?_
      refine r_get X hP 0 (wX6_g0_0 _ _ _) rfl inc_X6 0 (by decide) fl_X6_12 rfl dX6_takesNumber_35 ?_
      refine r_get X hP 1 (wX6_g0_1 _ _ _) rfl inc_X7 5 (by decide) fl_X6_83 rfl dX6_takesNumber_38 ?_
      refine lv_iload_n hx hb dX6_takesNumber_41 rfl (lv_at hl 0 rfl) ?_
      refine lv_icmp_lt (tgt := 59) hx hb dX6_takesNumber_42 (by decide) (fun c3 => ?_) (fun c3 => ?_)
      · have hf := (if_pos c3).symm.trans hf
        refine lv_iconst (v := 0) hx hb dX6_takesNumber_59 (by decide) ?_
        have ho := Option.some.inj hf
        have hv : 0 = out.1 := by rw [← ho]
        have hw := congrArg (fun o : Int32 × Sg => (wX6 E a o.2)) ho
        exact r_zret X hr hP hS rfl hv hw dX6_takesNumber_60
      · have hf := (if_neg c3).symm.trans hf
        refine lv_aload_n hx hb dX6_takesNumber_45 rfl (lv_at hl 1 rfl) ?_
        refine r_get X hP 0 (wX6_g0_0 _ _ _) rfl inc_X6 0 (by decide) fl_X6_12 rfl dX6_takesNumber_46 ?_
        refine r_get X hP 1 (wX6_g0_1 _ _ _) rfl inc_X7 5 (by decide) fl_X6_83 rfl dX6_takesNumber_49 ?_
        refine lv_aload_n hx hb dX6_takesNumber_52 rfl (lv_at hl 1 rfl) ?_
        obtain ⟨z4, hz4, hf⟩ := obd hf
        refine cV_allI X (As := []) (rest := [.int (σ 1 5)]) (c_X6_mostNumber l E a σ hz4) pv_X6_mostNumber ml_X6_86 ⟨rfl, rfl⟩ ⟨(Nat.le_of_ble_eq_true rfl), (Nat.le_of_ble_eq_true rfl)⟩ hP hD hS (wX6_g0_0 _ _ _) rfl (wX6_adr _ _ _ _) rfl hl.1 rfl (Nat.le_of_ble_eq_true rfl) dX6_takesNumber_53 ⟨Nat.le_refl _, Nat.le_refl _⟩ (fun H locs hP hD hS => ?_)
        refine lv_icmp_le (tgt := 61) hx hb dX6_takesNumber_56 (by decide) (fun c5 => ?_) (fun c5 => ?_)
        · have hf := (if_pos c5).symm.trans hf
          refine lv_aload_n hx hb dX6_takesNumber_61 rfl (lv_at hl 1 rfl) ?_
          refine r_get X hP 0 (wX6_g0_0 _ _ _) rfl inc_X6 4 (by decide) fl_X6_32 rfl dX6_takesNumber_62 ?_
          have J2 : ∀ (g6 : Sg), j_X6_takesNumber_2 g6 = some out → ∀ (H : Heap) (locs : List Loc) (ls : Array Slot), va_P E.1 vwCl (wX6 E a g6) H → va_D A (wX6 E a g6) → va_S A s.heap H locs → lv_has ls 2 [(0, .ref (a 0))] → W p l e rm_X6_takesNumber s m ([.ref (a 0)] : List Value).toArray below meth c H locs 0 0 (MQ below (va_Qi (fun x (_ : Unit) => x = out.1) (fun _ t => QW E (wX6 E a out.2) t) A) ([.ref (a 0)] : List Value).toArray s 0 0 A) (F0 m 118 ls []) := by
            intro g6 hf H locs ls hP hD hS hl
            refine lv_aload_n hx hb dX6_takesNumber_118 rfl (lv_at hl 0 rfl) ?_
            refine lv_dup hx hb dX6_takesNumber_119 rfl ?_
            refine r_get X hP 0 (wX6_g0_0 _ _ _) rfl inc_X6 4 (by decide) fl_X6_32 rfl dX6_takesNumber_120 ?_
            refine lv_iconst (v := 1) hx hb dX6_takesNumber_123 (by decide) ?_
            refine lv_iadd hx hb dX6_takesNumber_124 ?_
            refine r_put X hP hD hS 0 (wX6_g0_0 _ _ _) rfl inc_X6 tyX6 tyX6_ok nmX6 4 (by decide) fl_X6_32 rfl (ty := .int) rfl rfl rfl (Nat.le_of_ble_eq_true rfl) (wX6_s0_0_4 _ _ _ _) dX6_takesNumber_125 (fun H locs hP hD hS => ?_)
            refine lv_iconst (v := 1) hx hb dX6_takesNumber_128 (by decide) ?_
            have ho := Option.some.inj hf
            have hv : 1 = out.1 := by rw [← ho]
            have hw := congrArg (fun o : Int32 × Sg => (wX6 E a o.2)) ho
            exact r_zret X hr hP hS rfl hv hw dX6_takesNumber_129
          refine lv_if_ne (tgt := 82) hx hb dX6_takesNumber_65 (by decide) (fun c7 => ?_) (fun c7 => ?_)
          · have hf := (if_neg c7).symm.trans hf
            refine lv_aload_n hx hb dX6_takesNumber_82 rfl (lv_at hl 1 rfl) ?_
            refine r_get X hP 0 (wX6_g0_0 _ _ _) rfl inc_X6 3 (by decide) fl_X6_29 rfl dX6_takesNumber_83 ?_
            refine lv_bipush (v := 6) hx hb dX6_takesNumber_86 (by decide) ?_
            have J3 : j_X6_takesNumber_3 σ = some out → ∀ (H : Heap) (locs : List Loc) (ls : Array Slot), va_P E.1 vwCl (wX6 E a σ) H → va_D A (wX6 E a σ) → va_S A s.heap H locs → lv_has ls 2 [(0, .ref (a 0))] → W p l e rm_X6_takesNumber s m ([.ref (a 0)] : List Value).toArray below meth c H locs 0 0 (MQ below (va_Qi (fun x (_ : Unit) => x = out.1) (fun _ t => QW E (wX6 E a out.2) t) A) ([.ref (a 0)] : List Value).toArray s 0 0 A) (F0 m 107 ls []) := by
              intro hf H locs ls hP hD hS hl
              refine lv_aload_n hx hb dX6_takesNumber_107 rfl (lv_at hl 0 rfl) ?_
              refine lv_aload_n hx hb dX6_takesNumber_108 rfl (lv_at hl 0 rfl) ?_
              refine r_get X hP 0 (wX6_g0_0 _ _ _) rfl inc_X6 0 (by decide) fl_X6_12 rfl dX6_takesNumber_109 ?_
              refine r_get X hP 1 (wX6_g0_1 _ _ _) rfl inc_X7 5 (by decide) fl_X6_83 rfl dX6_takesNumber_112 ?_
              refine r_put X hP hD hS 0 (wX6_g0_0 _ _ _) rfl inc_X6 tyX6 tyX6_ok nmX6 6 (by decide) fl_X6_38 rfl (ty := .int) rfl rfl rfl (Nat.le_of_ble_eq_true rfl) (wX6_s0_0_6 _ _ _ _) dX6_takesNumber_115 (fun H locs hP hD hS => ?_)
              exact J2 (sg_st σ 0 6 (σ 1 5)) hf H locs ls hP hD hS (lv_sub hl [0] rfl)
            refine lv_icmp_ne (tgt := 107) hx hb dX6_takesNumber_88 (by decide) (fun c8 => ?_) (fun c8 => ?_)
            · have hf := (if_neg c8).symm.trans hf
              exact J3 hf H locs ls hP hD hS (lv_sub hl [1] rfl)
            · have hf := (if_pos c8).symm.trans hf
              refine lv_aload_n hx hb dX6_takesNumber_91 rfl (lv_at hl 1 rfl) ?_
              refine r_get X hP 0 (wX6_g0_0 _ _ _) rfl inc_X6 0 (by decide) fl_X6_12 rfl dX6_takesNumber_92 ?_
              refine r_get X hP 1 (wX6_g0_1 _ _ _) rfl inc_X7 5 (by decide) fl_X6_83 rfl dX6_takesNumber_95 ?_
              refine lv_aload_n hx hb dX6_takesNumber_98 rfl (lv_at hl 1 rfl) ?_
              refine r_get X hP 0 (wX6_g0_0 _ _ _) rfl inc_X6 5 (by decide) fl_X6_35 rfl dX6_takesNumber_99 ?_
              refine lv_icmp_ne (tgt := 107) hx hb dX6_takesNumber_102 (by decide) (fun c9 => ?_) (fun c9 => ?_)
              · have hf := (if_neg c9).symm.trans hf
                exact J3 hf H locs ls hP hD hS (lv_sub hl [1] rfl)
              · have hf := (if_pos c9).symm.trans hf
                refine lv_iconst (v := 0) hx hb dX6_takesNumber_105 (by decide) ?_
                have ho := Option.some.inj hf
                have hv : 0 = out.1 := by rw [← ho]
                have hw := congrArg (fun o : Int32 × Sg => (wX6 E a o.2)) ho
                exact r_zret X hr hP hS rfl hv hw dX6_takesNumber_106
          · have hf := (if_pos c7).symm.trans hf
            refine lv_aload_n hx hb dX6_takesNumber_68 rfl (lv_at hl 1 rfl) ?_
            refine lv_aload_n hx hb dX6_takesNumber_69 rfl (lv_at hl 1 rfl) ?_
            refine r_get X hP 0 (wX6_g0_0 _ _ _) rfl inc_X6 0 (by decide) fl_X6_12 rfl dX6_takesNumber_70 ?_
            refine r_get X hP 1 (wX6_g0_1 _ _ _) rfl inc_X7 5 (by decide) fl_X6_83 rfl dX6_takesNumber_73 ?_
            refine r_put X hP hD hS 0 (wX6_g0_0 _ _ _) rfl inc_X6 tyX6 tyX6_ok nmX6 5 (by decide) fl_X6_35 rfl (ty := .int) rfl rfl rfl (Nat.le_of_ble_eq_true rfl) (wX6_s0_0_5 _ _ _ _) dX6_takesNumber_76 (fun H locs hP hD hS => ?_)
            refine lv_goto (tgt := 118) hx hb dX6_takesNumber_79 (by decide) ?_
            exact J2 (sg_st σ 0 5 (σ 1 5)) hf H locs ls hP hD hS (lv_sub hl [1] rfl)
        · have hf := (if_neg c5).symm.trans hf
          refine lv_iconst (v := 0) hx hb dX6_takesNumber_59 (by decide) ?_
          have ho := Option.some.inj hf
          have hv : 0 = out.1 := by rw [← ho]
          have hw := congrArg (fun o : Int32 × Sg => (wX6 E a o.2)) ho
          exact r_zret X hr hP hS rfl hv hw dX6_takesNumber_60
  refine lv_icmp_eq (tgt := 17) hx hb dX6_takesNumber_5 (by decide) (fun c10 => ?_) (fun c10 => ?_)
  · have hf := (if_pos c10).symm.trans hf
    refine lv_iconst (v := 1) hx hb dX6_takesNumber_17 (by decide) ?_
    refine lv_goto (tgt := 22) hx hb dX6_takesNumber_18 (by decide) ?_
    exact J1 1 hf H locs ls hP hD hS (lv_sub hl [0] rfl)
  · have hf := (if_neg c10).symm.trans hf
    refine lv_aload_n hx hb dX6_takesNumber_8 rfl (lv_at hl 0 rfl) ?_
    refine r_get X hP 0 (wX6_g0_0 _ _ _) rfl inc_X6 3 (by decide) fl_X6_29 rfl dX6_takesNumber_9 ?_
    refine lv_bipush (v := 7) hx hb dX6_takesNumber_12 (by decide) ?_
    refine lv_icmp_ne (tgt := 21) hx hb dX6_takesNumber_14 (by decide) (fun c11 => ?_) (fun c11 => ?_)
    · have hf := (if_neg c11).symm.trans hf
      refine lv_iconst (v := 0) hx hb dX6_takesNumber_21 (by decide) ?_
      exact J1 0 hf H locs ls hP hD hS (lv_sub hl [0] rfl)
    · have hf := (if_pos c11).symm.trans hf
      refine lv_iconst (v := 1) hx hb dX6_takesNumber_17 (by decide) ?_
      refine lv_goto (tgt := 22) hx hb dX6_takesNumber_18 (by decide) ?_
      exact J1 1 hf H locs ls hP hD hS (lv_sub hl [0] rfl)
def rm_X6_takesWord : Room := { frames := 2, cells := 0, slots := 0, locals := 41 }
theorem pv_X6_takesWord : PkV RX6 yX6_takesWord cX6_takesWord 1 (some .boolean) 0 := ⟨im_X6_takesWord, se_X6_takesWord, ini_X6, cd_X6_takesWord, by decide +kernel⟩
set_option maxHeartbeats 4000000 in
set_option maxRecDepth 100000 in
theorem c_X6_takesWord (l : Launch) (E : Ev) (a : Nat → Nat) (σ : Sg) {out : Int32 × Sg} (hf : f_X6_takesWord σ = some out) : MtI l yX6_takesWord (wl yX6_takesWord cX6_takesWord 1 (some .boolean)) rm_X6_takesWord E [.ref (a 0)] (wX6 E a σ) out.1 (wX6 E a out.2) := by
  refine mt_of (QQ := (fun A => va_Qi (fun x (_ : Unit) => x = out.1) (fun _ t => QW E (wX6 E a out.2) t) A)) (by decide) (Nat.le_of_ble_eq_true rfl) (fun p e s m below meth c A ls X hr hP hD hS hl => ?_)
  have hx := X.1.1
  have hb := X.1.2.1
  have hl : lv_has ls 1 [(0, .ref (a 0))] := hl
  obtain ⟨H, hHe⟩ : ∃ H : Heap, H = s.heap := ⟨_, rfl⟩
  obtain ⟨locs, hLe⟩ : ∃ locs : List Loc, locs = [] := ⟨_, rfl⟩
  have hP : va_P E.1 vwCl (wX6 E a σ) H := by rw [hHe]; exact hP
  have hS : va_S A s.heap H locs := by rw [hHe, hLe]; exact hS
  rw [← hLe, show W p l e rm_X6_takesWord s m ([.ref (a 0)] : List Value).toArray below meth c s.heap locs 0 0 = W p l e rm_X6_takesWord s m ([.ref (a 0)] : List Value).toArray below meth c H locs 0 0 from by rw [hHe]]
  refine lv_aload_n hx hb dX6_takesWord_0 rfl (lv_at hl 0 rfl) ?_
  refine lv_aload_n hx hb dX6_takesWord_1 rfl (lv_at hl 0 rfl) ?_
  refine r_get X hP 0 (wX6_g0_0 _ _ _) rfl inc_X6 0 (by decide) fl_X6_12 rfl dX6_takesWord_2 ?_
  refine r_get X hP 1 (wX6_g0_1 _ _ _) rfl inc_X7 4 (by decide) fl_X6_54 rfl dX6_takesWord_5 ?_
  obtain ⟨z1, hz1, hf⟩ := obd hf
  refine cV_allI X (As := [.int (σ 1 4)]) (rest := []) (c_X6_mayBegin l E a σ (σ 1 4) hz1) pv_X6_mayBegin ml_X6_70 ⟨rfl, rfl⟩ ⟨(Nat.le_of_ble_eq_true rfl), (Nat.le_of_ble_eq_true rfl)⟩ hP hD hS (wX6_g0_0 _ _ _) rfl (wX6_adr _ _ _ _) rfl hl.1 rfl (Nat.le_of_ble_eq_true rfl) dX6_takesWord_8 ⟨Nat.le_refl _, Nat.le_refl _⟩ (fun H locs hP hD hS => ?_)
  refine lv_if_ne (tgt := 16) hx hb dX6_takesWord_11 (by decide) (fun c2 => ?_) (fun c2 => ?_)
  · have hf := (if_neg c2).symm.trans hf
    refine lv_aload_n hx hb dX6_takesWord_16 rfl (lv_at hl 0 rfl) ?_
    refine lv_aload_n hx hb dX6_takesWord_17 rfl (lv_at hl 0 rfl) ?_
    refine r_get X hP 0 (wX6_g0_0 _ _ _) rfl inc_X6 0 (by decide) fl_X6_12 rfl dX6_takesWord_18 ?_
    refine r_get X hP 1 (wX6_g0_1 _ _ _) rfl inc_X7 4 (by decide) fl_X6_54 rfl dX6_takesWord_21 ?_
    refine r_put X hP hD hS 0 (wX6_g0_0 _ _ _) rfl inc_X6 tyX6 tyX6_ok nmX6 3 (by decide) fl_X6_29 rfl (ty := .int) rfl rfl rfl (Nat.le_of_ble_eq_true rfl) (wX6_s0_0_3 _ _ _ _) dX6_takesWord_24 (fun H locs hP hD hS => ?_)
    refine lv_aload_n hx hb dX6_takesWord_27 rfl (lv_at hl 0 rfl) ?_
    refine lv_iconst (v := 0) hx hb dX6_takesWord_28 (by decide) ?_
    refine r_put X hP hD hS 0 (wX6_g0_0 _ _ _) rfl inc_X6 tyX6 tyX6_ok nmX6 4 (by decide) fl_X6_32 rfl (ty := .int) rfl rfl rfl (Nat.le_of_ble_eq_true rfl) (wX6_s0_0_4 _ _ _ _) dX6_takesWord_29 (fun H locs hP hD hS => ?_)
    refine lv_iconst (v := 1) hx hb dX6_takesWord_32 (by decide) ?_
    have ho := Option.some.inj hf
    have hv : 1 = out.1 := by rw [← ho]
    have hw := congrArg (fun o : Int32 × Sg => (wX6 E a o.2)) ho
    exact r_zret X hr hP hS rfl hv hw dX6_takesWord_33
  · have hf := (if_pos c2).symm.trans hf
    refine lv_iconst (v := 0) hx hb dX6_takesWord_14 (by decide) ?_
    have ho := Option.some.inj hf
    have hv : 0 = out.1 := by rw [← ho]
    have hw := congrArg (fun o : Int32 × Sg => (wX6 E a o.2)) ho
    exact r_zret X hr hP hS rfl hv hw dX6_takesWord_15
def rm_X6_takesToken : Room := { frames := 3, cells := 0, slots := 0, locals := 62 }
theorem pv_X6_takesToken : PkV RX6 yX6_takesToken cX6_takesToken 2 (some .boolean) 0 := ⟨im_X6_takesToken, se_X6_takesToken, ini_X6, cd_X6_takesToken, by decide +kernel⟩
set_option maxHeartbeats 4000000 in
set_option maxRecDepth 100000 in
theorem c_X6_takesToken (l : Launch) (E : Ev) (a : Nat → Nat) (σ : Sg) {out : Int32 × Sg} (hf : f_X6_takesToken σ = some out) : MtI l yX6_takesToken (wl yX6_takesToken cX6_takesToken 2 (some .boolean)) rm_X6_takesToken E [.ref (a 0)] (wX6 E a σ) out.1 (wX6 E a out.2) := by
  refine mt_of (QQ := (fun A => va_Qi (fun x (_ : Unit) => x = out.1) (fun _ t => QW E (wX6 E a out.2) t) A)) (by decide) (Nat.le_of_ble_eq_true rfl) (fun p e s m below meth c A ls X hr hP hD hS hl => ?_)
  have hx := X.1.1
  have hb := X.1.2.1
  have hl : lv_has ls 2 [(0, .ref (a 0))] := hl
  obtain ⟨H, hHe⟩ : ∃ H : Heap, H = s.heap := ⟨_, rfl⟩
  obtain ⟨locs, hLe⟩ : ∃ locs : List Loc, locs = [] := ⟨_, rfl⟩
  have hP : va_P E.1 vwCl (wX6 E a σ) H := by rw [hHe]; exact hP
  have hS : va_S A s.heap H locs := by rw [hHe, hLe]; exact hS
  rw [← hLe, show W p l e rm_X6_takesToken s m ([.ref (a 0)] : List Value).toArray below meth c s.heap locs 0 0 = W p l e rm_X6_takesToken s m ([.ref (a 0)] : List Value).toArray below meth c H locs 0 0 from by rw [hHe]]
  refine lv_aload_n hx hb dX6_takesToken_0 rfl (lv_at hl 0 rfl) ?_
  refine r_get X hP 0 (wX6_g0_0 _ _ _) rfl inc_X6 3 (by decide) fl_X6_29 rfl dX6_takesToken_1 ?_
  refine lv_if_ne (tgt := 12) hx hb dX6_takesToken_4 (by decide) (fun c1 => ?_) (fun c1 => ?_)
  · have hf := (if_neg c1).symm.trans hf
    refine lv_aload_n hx hb dX6_takesToken_12 rfl (lv_at hl 0 rfl) ?_
    refine r_get X hP 0 (wX6_g0_0 _ _ _) rfl inc_X6 3 (by decide) fl_X6_29 rfl dX6_takesToken_13 ?_
    refine lv_bipush (v := 7) hx hb dX6_takesToken_16 (by decide) ?_
    have J1 : ∀ (x2 : Int32), j_X6_takesToken_1 σ x2 = some out → ∀ (H : Heap) (locs : List Loc) (ls : Array Slot), va_P E.1 vwCl (wX6 E a σ) H → va_D A (wX6 E a σ) → va_S A s.heap H locs → lv_has ls 2 [(0, .ref (a 0))] → W p l e rm_X6_takesToken s m ([.ref (a 0)] : List Value).toArray below meth c H locs 0 0 (MQ below (va_Qi (fun x (_ : Unit) => x = out.1) (fun _ t => QW E (wX6 E a out.2) t) A) ([.ref (a 0)] : List Value).toArray s 0 0 A) (F0 m 26 ls [.int x2]) := by
      intro x2 hf H locs ls hP hD hS hl
      refine lv_istore_n (lv' := [(1, .int x2), (0, .ref (a 0))]) hx hb dX6_takesToken_26 rfl hl (by decide) rfl (fun ls hl => ?_)
      refine lv_aload_n hx hb dX6_takesToken_27 rfl (lv_at hl 1 rfl) ?_
      refine r_get X hP 0 (wX6_g0_0 _ _ _) rfl inc_X6 4 (by decide) fl_X6_32 rfl dX6_takesToken_28 ?_
      refine lv_iload_n hx hb dX6_takesToken_31 rfl (lv_at hl 0 rfl) ?_
      refine lv_icmp_ge (tgt := 42) hx hb dX6_takesToken_32 (by decide) (fun c3 => ?_) (fun c3 => ?_)
      · have hf := (if_pos c3).symm.trans hf
        refine lv_aload_n hx hb dX6_takesToken_42 rfl (lv_at hl 1 rfl) ?_
        obtain ⟨z4, hz4, hf⟩ := obd hf
        refine cV_allI X (As := []) (rest := []) (c_X6_takesEnd l E a σ hz4) pv_X6_takesEnd ml_X6_67 ⟨rfl, rfl⟩ ⟨(Nat.le_of_ble_eq_true rfl), (Nat.le_of_ble_eq_true rfl)⟩ hP hD hS (wX6_g0_0 _ _ _) rfl (wX6_adr _ _ _ _) rfl hl.1 rfl (Nat.le_of_ble_eq_true rfl) dX6_takesToken_43 ⟨Nat.le_refl _, Nat.le_refl _⟩ (fun H locs hP hD hS => ?_)
        obtain ⟨⟨h5, -⟩, hf⟩ := cbl_in hf
        have ho := Option.some.inj hf
        have hv : z4.1 = out.1 := by rw [← ho]
        have hw := congrArg (fun o : Int32 × Sg => (wX6 E a o.2)) ho
        exact r_zret X hr hP hS h5 hv hw dX6_takesToken_46
      · have hf := (if_neg c3).symm.trans hf
        refine lv_aload_n hx hb dX6_takesToken_35 rfl (lv_at hl 1 rfl) ?_
        obtain ⟨z6, hz6, hf⟩ := obd hf
        refine cV_allI X (As := []) (rest := []) (c_X6_takesNumber l E a σ hz6) pv_X6_takesNumber ml_X6_64 ⟨rfl, rfl⟩ ⟨(Nat.le_of_ble_eq_true rfl), (Nat.le_of_ble_eq_true rfl)⟩ hP hD hS (wX6_g0_0 _ _ _) rfl (wX6_adr _ _ _ _) rfl hl.1 rfl (Nat.le_of_ble_eq_true rfl) dX6_takesToken_36 ⟨Nat.le_refl _, Nat.le_refl _⟩ (fun H locs hP hD hS => ?_)
        refine lv_goto (tgt := 46) hx hb dX6_takesToken_39 (by decide) ?_
        obtain ⟨⟨h7, -⟩, hf⟩ := cbl_in hf
        have ho := Option.some.inj hf
        have hv : z6.1 = out.1 := by rw [← ho]
        have hw := congrArg (fun o : Int32 × Sg => (wX6 E a o.2)) ho
        exact r_zret X hr hP hS h7 hv hw dX6_takesToken_46
    refine lv_icmp_ne (tgt := 25) hx hb dX6_takesToken_18 (by decide) (fun c8 => ?_) (fun c8 => ?_)
    · have hf := (if_neg c8).symm.trans hf
      refine lv_iconst (v := 2) hx hb dX6_takesToken_25 (by decide) ?_
      exact J1 2 hf H locs ls hP hD hS (lv_sub hl [0] rfl)
    · have hf := (if_pos c8).symm.trans hf
      refine lv_iconst (v := 1) hx hb dX6_takesToken_21 (by decide) ?_
      refine lv_goto (tgt := 26) hx hb dX6_takesToken_22 (by decide) ?_
      exact J1 1 hf H locs ls hP hD hS (lv_sub hl [0] rfl)
  · have hf := (if_pos c1).symm.trans hf
    refine lv_aload_n hx hb dX6_takesToken_7 rfl (lv_at hl 0 rfl) ?_
    obtain ⟨z9, hz9, hf⟩ := obd hf
    refine cV_allI X (As := []) (rest := []) (c_X6_takesWord l E a σ hz9) pv_X6_takesWord ml_X6_61 ⟨rfl, rfl⟩ ⟨(Nat.le_of_ble_eq_true rfl), (Nat.le_of_ble_eq_true rfl)⟩ hP hD hS (wX6_g0_0 _ _ _) rfl (wX6_adr _ _ _ _) rfl hl.1 rfl (Nat.le_of_ble_eq_true rfl) dX6_takesToken_8 ⟨Nat.le_refl _, Nat.le_refl _⟩ (fun H locs hP hD hS => ?_)
    obtain ⟨⟨h10, -⟩, hf⟩ := cbl_in hf
    have ho := Option.some.inj hf
    have hv : z9.1 = out.1 := by rw [← ho]
    have hw := congrArg (fun o : Int32 × Sg => (wX6 E a o.2)) ho
    exact r_zret X hr hP hS h10 hv hw dX6_takesToken_11
def rm_X7_byteAt : Room := { frames := 0, cells := 0, slots := 0, locals := 0 }
theorem pv_X7_byteAt : PkV RX7 yX7_byteAt cX7_byteAt 2 (some .int) 1 := ⟨im_X7_byteAt, se_X7_byteAt, ini_X7, cd_X7_byteAt, by decide +kernel⟩
set_option maxHeartbeats 4000000 in
set_option maxRecDepth 100000 in
theorem c_X7_byteAt (l : Launch) (E : Ev) (a : Nat → Nat) (σ : Sg) (p1 : Int32) {out : Int32} (hf : f_X7_byteAt σ p1 = some out) : MtI l yX7_byteAt (wl yX7_byteAt cX7_byteAt 2 (some .int)) rm_X7_byteAt E [.ref (a 0), .int p1] (wX7 E a σ) out (wX7 E a σ) := by
  refine mt_of (QQ := (fun A => va_Qi (fun x (_ : Unit) => x = out) (fun _ t => QW E (wX7 E a σ) t) A)) (by decide) (Nat.le_of_ble_eq_true rfl) (fun p e s m below meth c A ls X hr hP hD hS hl => ?_)
  have hx := X.1.1
  have hb := X.1.2.1
  have hl : lv_has ls 2 [(0, .ref (a 0)), (1, .int p1)] := hl
  obtain ⟨H, hHe⟩ : ∃ H : Heap, H = s.heap := ⟨_, rfl⟩
  obtain ⟨locs, hLe⟩ : ∃ locs : List Loc, locs = [] := ⟨_, rfl⟩
  have hP : va_P E.1 vwCl (wX7 E a σ) H := by rw [hHe]; exact hP
  have hS : va_S A s.heap H locs := by rw [hHe, hLe]; exact hS
  rw [← hLe, show W p l e rm_X7_byteAt s m ([.ref (a 0), .int p1] : List Value).toArray below meth c s.heap locs 0 0 = W p l e rm_X7_byteAt s m ([.ref (a 0), .int p1] : List Value).toArray below meth c H locs 0 0 from by rw [hHe]]
  refine lv_iload_n hx hb dX7_byteAt_0 rfl (lv_at hl 1 rfl) ?_
  refine lv_if_lt (tgt := 28) hx hb dX7_byteAt_1 (by decide) (fun c1 => ?_) (fun c1 => ?_)
  · have hf := (if_pos c1).symm.trans hf
    refine lv_iconst (v := (-1)) hx hb dX7_byteAt_28 (by decide) ?_
    have ho := Option.some.inj hf
    exact r_iret X hr hP hS ho rfl dX7_byteAt_29
  · have hf := (if_neg c1).symm.trans hf
    refine lv_iload_n hx hb dX7_byteAt_4 rfl (lv_at hl 1 rfl) ?_
    refine lv_aload_n hx hb dX7_byteAt_5 rfl (lv_at hl 0 rfl) ?_
    refine r_get X hP 0 (wX7_g0_0 _ _ _) rfl inc_X7 0 (by decide) fl_X7_9 rfl dX7_byteAt_6 ?_
    refine lv_icmp_ge (tgt := 28) hx hb dX7_byteAt_9 (by decide) (fun c2 => ?_) (fun c2 => ?_)
    · have hf := (if_pos c2).symm.trans hf
      refine lv_iconst (v := (-1)) hx hb dX7_byteAt_28 (by decide) ?_
      have ho := Option.some.inj hf
      exact r_iret X hr hP hS ho rfl dX7_byteAt_29
    · have hf := (if_neg c2).symm.trans hf
      refine lv_iload_n hx hb dX7_byteAt_12 rfl (lv_at hl 1 rfl) ?_
      refine lv_sipush (v := 200) hx hb dX7_byteAt_13 (by decide) ?_
      refine lv_icmp_ge (tgt := 28) hx hb dX7_byteAt_16 (by decide) (fun c3 => ?_) (fun c3 => ?_)
      · have hf := (if_pos c3).symm.trans hf
        refine lv_iconst (v := (-1)) hx hb dX7_byteAt_28 (by decide) ?_
        have ho := Option.some.inj hf
        exact r_iret X hr hP hS ho rfl dX7_byteAt_29
      · have hf := (if_neg c3).symm.trans hf
        refine lv_aload_n hx hb dX7_byteAt_19 rfl (lv_at hl 0 rfl) ?_
        refine r_get X hP 0 (wX7_g0_0 _ _ _) rfl inc_X7 1 (by decide) fl_X7_15 rfl dX7_byteAt_20 ?_
        refine lv_iload_n hx hb dX7_byteAt_23 rfl (lv_at hl 1 rfl) ?_
        obtain ⟨h4, hf⟩ := chk_in hf
        refine r_iald X hP 1 (wX7_g0_1 _ _ _) h4 dX7_byteAt_24 ?_
        refine lv_goto (tgt := 29) hx hb dX7_byteAt_25 (by decide) ?_
        have ho := Option.some.inj hf
        exact r_iret X hr hP hS ho rfl dX7_byteAt_29
def rm_X7_isDigit : Room := { frames := 0, cells := 0, slots := 0, locals := 0 }
theorem ps_X7_isDigit : PkS yX7_isDigit cX7_isDigit 1 (some .boolean) 1 := ⟨sm_X7_isDigit, ini_X7, cd_X7_isDigit, by decide +kernel⟩
set_option maxHeartbeats 4000000 in
set_option maxRecDepth 100000 in
theorem c_X7_isDigit (l : Launch) (E : Ev) (p1 : Int32) {out : Int32} (hf : f_X7_isDigit p1 = some out) : MtI l yX7_isDigit (wl yX7_isDigit cX7_isDigit 1 (some .boolean)) rm_X7_isDigit E [.int p1] ([] : va_W) out ([] : va_W) := by
  refine mt_of (QQ := (fun A => va_Qi (fun x (_ : Unit) => x = out) (fun _ t => QW E ([] : va_W) t) A)) (by decide) (Nat.le_of_ble_eq_true rfl) (fun p e s m below meth c A ls X hr hP hD hS hl => ?_)
  have hx := X.1.1
  have hb := X.1.2.1
  have hl : lv_has ls 1 [(0, .int p1)] := hl
  obtain ⟨H, hHe⟩ : ∃ H : Heap, H = s.heap := ⟨_, rfl⟩
  obtain ⟨locs, hLe⟩ : ∃ locs : List Loc, locs = [] := ⟨_, rfl⟩
  have hP : va_P E.1 vwCl ([] : va_W) H := by rw [hHe]; exact hP
  have hS : va_S A s.heap H locs := by rw [hHe, hLe]; exact hS
  rw [← hLe, show W p l e rm_X7_isDigit s m ([.int p1] : List Value).toArray below meth c s.heap locs 0 0 = W p l e rm_X7_isDigit s m ([.int p1] : List Value).toArray below meth c H locs 0 0 from by rw [hHe]]
  refine lv_iload_n hx hb dX7_isDigit_0 rfl (lv_at hl 0 rfl) ?_
  refine lv_bipush (v := 48) hx hb dX7_isDigit_1 (by decide) ?_
  refine lv_icmp_lt (tgt := 16) hx hb dX7_isDigit_3 (by decide) (fun c1 => ?_) (fun c1 => ?_)
  · have hf := (if_pos c1).symm.trans hf
    refine lv_iconst (v := 0) hx hb dX7_isDigit_16 (by decide) ?_
    have ho := Option.some.inj hf
    exact r_zret X hr hP hS rfl ho rfl dX7_isDigit_17
  · have hf := (if_neg c1).symm.trans hf
    refine lv_iload_n hx hb dX7_isDigit_6 rfl (lv_at hl 0 rfl) ?_
    refine lv_bipush (v := 57) hx hb dX7_isDigit_7 (by decide) ?_
    refine lv_icmp_gt (tgt := 16) hx hb dX7_isDigit_9 (by decide) (fun c2 => ?_) (fun c2 => ?_)
    · have hf := (if_pos c2).symm.trans hf
      refine lv_iconst (v := 0) hx hb dX7_isDigit_16 (by decide) ?_
      have ho := Option.some.inj hf
      exact r_zret X hr hP hS rfl ho rfl dX7_isDigit_17
    · have hf := (if_neg c2).symm.trans hf
      refine lv_iconst (v := 1) hx hb dX7_isDigit_12 (by decide) ?_
      refine lv_goto (tgt := 17) hx hb dX7_isDigit_13 (by decide) ?_
      have ho := Option.some.inj hf
      exact r_zret X hr hP hS rfl ho rfl dX7_isDigit_17
def rm_X7_isLetter : Room := { frames := 0, cells := 0, slots := 0, locals := 0 }
theorem ps_X7_isLetter : PkS yX7_isLetter cX7_isLetter 1 (some .boolean) 1 := ⟨sm_X7_isLetter, ini_X7, cd_X7_isLetter, by decide +kernel⟩
set_option maxHeartbeats 4000000 in
set_option maxRecDepth 100000 in
theorem c_X7_isLetter (l : Launch) (E : Ev) (p1 : Int32) {out : Int32} (hf : f_X7_isLetter p1 = some out) : MtI l yX7_isLetter (wl yX7_isLetter cX7_isLetter 1 (some .boolean)) rm_X7_isLetter E [.int p1] ([] : va_W) out ([] : va_W) := by
  refine mt_of (QQ := (fun A => va_Qi (fun x (_ : Unit) => x = out) (fun _ t => QW E ([] : va_W) t) A)) (by decide) (Nat.le_of_ble_eq_true rfl) (fun p e s m below meth c A ls X hr hP hD hS hl => ?_)
  have hx := X.1.1
  have hb := X.1.2.1
  have hl : lv_has ls 1 [(0, .int p1)] := hl
  obtain ⟨H, hHe⟩ : ∃ H : Heap, H = s.heap := ⟨_, rfl⟩
  obtain ⟨locs, hLe⟩ : ∃ locs : List Loc, locs = [] := ⟨_, rfl⟩
  have hP : va_P E.1 vwCl ([] : va_W) H := by rw [hHe]; exact hP
  have hS : va_S A s.heap H locs := by rw [hHe, hLe]; exact hS
  rw [← hLe, show W p l e rm_X7_isLetter s m ([.int p1] : List Value).toArray below meth c s.heap locs 0 0 = W p l e rm_X7_isLetter s m ([.int p1] : List Value).toArray below meth c H locs 0 0 from by rw [hHe]]
  refine lv_iload_n hx hb dX7_isLetter_0 rfl (lv_at hl 0 rfl) ?_
  refine lv_bipush (v := 97) hx hb dX7_isLetter_1 (by decide) ?_
  refine lv_icmp_lt (tgt := 16) hx hb dX7_isLetter_3 (by decide) (fun c1 => ?_) (fun c1 => ?_)
  · have hf := (if_pos c1).symm.trans hf
    refine lv_iconst (v := 0) hx hb dX7_isLetter_16 (by decide) ?_
    have ho := Option.some.inj hf
    exact r_zret X hr hP hS rfl ho rfl dX7_isLetter_17
  · have hf := (if_neg c1).symm.trans hf
    refine lv_iload_n hx hb dX7_isLetter_6 rfl (lv_at hl 0 rfl) ?_
    refine lv_bipush (v := 122) hx hb dX7_isLetter_7 (by decide) ?_
    refine lv_icmp_gt (tgt := 16) hx hb dX7_isLetter_9 (by decide) (fun c2 => ?_) (fun c2 => ?_)
    · have hf := (if_pos c2).symm.trans hf
      refine lv_iconst (v := 0) hx hb dX7_isLetter_16 (by decide) ?_
      have ho := Option.some.inj hf
      exact r_zret X hr hP hS rfl ho rfl dX7_isLetter_17
    · have hf := (if_neg c2).symm.trans hf
      refine lv_iconst (v := 1) hx hb dX7_isLetter_12 (by decide) ?_
      refine lv_goto (tgt := 17) hx hb dX7_isLetter_13 (by decide) ?_
      have ho := Option.some.inj hf
      exact r_zret X hr hP hS rfl ho rfl dX7_isLetter_17
def rm_X7_readNumber : Room := { frames := 1, cells := 0, slots := 0, locals := 21 }
theorem pv_X7_readNumber : PkV RX7 yX7_readNumber cX7_readNumber 3 none 0 := ⟨im_X7_readNumber, se_X7_readNumber, ini_X7, cd_X7_readNumber, by decide +kernel⟩
set_option maxHeartbeats 4000000 in
set_option maxRecDepth 100000 in
theorem c_X7_readNumber (l : Launch) (E : Ev) (a : Nat → Nat) (σ : Sg) {out : Sg} (hf : f_X7_readNumber σ = some out) : MtV l yX7_readNumber (wl yX7_readNumber cX7_readNumber 3 none) rm_X7_readNumber E [.ref (a 0)] (wX7 E a σ) (wX7 E a out) := by
  refine mt_of (QQ := (fun A => va_Qv (fun _ : Unit => True) (fun _ t => QW E (wX7 E a out) t) A)) (by decide) (Nat.le_of_ble_eq_true rfl) (fun p e s m below meth c A ls X hr hP hD hS hl => ?_)
  have hx := X.1.1
  have hb := X.1.2.1
  have hl : lv_has ls 3 [(0, .ref (a 0))] := hl
  obtain ⟨H, hHe⟩ : ∃ H : Heap, H = s.heap := ⟨_, rfl⟩
  obtain ⟨locs, hLe⟩ : ∃ locs : List Loc, locs = [] := ⟨_, rfl⟩
  have hP : va_P E.1 vwCl (wX7 E a σ) H := by rw [hHe]; exact hP
  have hS : va_S A s.heap H locs := by rw [hHe, hLe]; exact hS
  rw [← hLe, show W p l e rm_X7_readNumber s m ([.ref (a 0)] : List Value).toArray below meth c s.heap locs 0 0 = W p l e rm_X7_readNumber s m ([.ref (a 0)] : List Value).toArray below meth c H locs 0 0 from by rw [hHe]]
  refine lv_aload_n hx hb dX7_readNumber_0 rfl (lv_at hl 0 rfl) ?_
  refine lv_iconst (v := 0) hx hb dX7_readNumber_1 (by decide) ?_
  refine r_put X hP hD hS 0 (wX7_g0_0 _ _ _) rfl inc_X7 tyX7 tyX7_ok nmX7 5 (by decide) fl_X7_28 rfl (ty := .int) rfl rfl rfl (Nat.le_of_ble_eq_true rfl) (wX7_s0_0_5 _ _ _ _) dX7_readNumber_2 (fun H locs hP hD hS => ?_)
  have J1 : ∀ (g1 : Sg), j_X7_readNumber_1 g1 = some out → ∀ (H : Heap) (locs : List Loc) (ls : Array Slot), va_P E.1 vwCl (wX7 E a g1) H → va_D A (wX7 E a g1) → va_S A s.heap H locs → lv_has ls 3 [(0, .ref (a 0))] → W p l e rm_X7_readNumber s m ([.ref (a 0)] : List Value).toArray below meth c H locs 0 0 (MQ below (va_Qv (fun _ : Unit => True) (fun _ t => QW E (wX7 E a out) t) A) ([.ref (a 0)] : List Value).toArray s 0 0 A) (F0 m 79 ls []) := by
    intro g1 hf H locs ls hP hD hS hl
    refine lv_aload_n hx hb dX7_readNumber_79 rfl (lv_at hl 0 rfl) ?_
    refine r_get X hP 0 (wX7_g0_0 _ _ _) rfl inc_X7 3 (by decide) fl_X7_22 rfl dX7_readNumber_80 ?_
    refine lv_aload_n hx hb dX7_readNumber_83 rfl (lv_at hl 0 rfl) ?_
    refine r_get X hP 0 (wX7_g0_0 _ _ _) rfl inc_X7 2 (by decide) fl_X7_19 rfl dX7_readNumber_84 ?_
    refine lv_isub hx hb dX7_readNumber_87 ?_
    refine lv_istore_n (lv' := [(1, .int ((g1 0 3) - (g1 0 2))), (0, .ref (a 0))]) hx hb dX7_readNumber_88 rfl hl (by decide) rfl (fun ls hl => ?_)
    refine lv_iload_n hx hb dX7_readNumber_89 rfl (lv_at hl 0 rfl) ?_
    refine lv_iconst (v := 1) hx hb dX7_readNumber_90 (by decide) ?_
    have J2 : ∀ (x2 : Int32), j_X7_readNumber_2 g1 x2 = some out → ∀ (H : Heap) (locs : List Loc) (ls : Array Slot), va_P E.1 vwCl (wX7 E a g1) H → va_D A (wX7 E a g1) → va_S A s.heap H locs → lv_has ls 3 [(0, .ref (a 0)), (1, .int ((g1 0 3) - (g1 0 2)))] → W p l e rm_X7_readNumber s m ([.ref (a 0)] : List Value).toArray below meth c H locs 0 0 (MQ below (va_Qv (fun _ : Unit => True) (fun _ t => QW E (wX7 E a out) t) A) ([.ref (a 0)] : List Value).toArray s 0 0 A) (F0 m 112 ls [.int x2]) := by
      intro x2 hf H locs ls hP hD hS hl
      refine lv_istore_n (lv' := [(2, .int x2), (0, .ref (a 0)), (1, .int ((g1 0 3) - (g1 0 2)))]) hx hb dX7_readNumber_112 rfl hl (by decide) rfl (fun ls hl => ?_)
      refine lv_aload_n hx hb dX7_readNumber_113 rfl (lv_at hl 1 rfl) ?_
      refine lv_iload_n hx hb dX7_readNumber_114 rfl (lv_at hl 2 rfl) ?_
      refine lv_iconst (v := 2) hx hb dX7_readNumber_115 (by decide) ?_
      have J3 : ∀ (x3 : Int32), j_X7_readNumber_3 g1 x3 = some out → ∀ (H : Heap) (locs : List Loc) (ls : Array Slot), va_P E.1 vwCl (wX7 E a g1) H → va_D A (wX7 E a g1) → va_S A s.heap H locs → lv_has ls 3 [] → W p l e rm_X7_readNumber s m ([.ref (a 0)] : List Value).toArray below meth c H locs 0 0 (MQ below (va_Qv (fun _ : Unit => True) (fun _ t => QW E (wX7 E a out) t) A) ([.ref (a 0)] : List Value).toArray s 0 0 A) (F0 m 128 ls [.int x3, .ref (a 0)]) := by
        intro x3 hf H locs ls hP hD hS hl
        refine r_put X hP hD hS 0 (wX7_g0_0 _ _ _) rfl inc_X7 tyX7 tyX7_ok nmX7 4 (by decide) fl_X7_25 rfl (ty := .int) rfl rfl rfl (Nat.le_of_ble_eq_true rfl) (wX7_s0_0_4 _ _ _ _) dX7_readNumber_128 (fun H locs hP hD hS => ?_)
        have ho := Option.some.inj hf
        have hw := congrArg (fun o : Sg => (wX7 E a o)) ho
        exact r_vret X hr hP hS hw dX7_readNumber_131
      refine lv_icmp_gt (tgt := 123) hx hb dX7_readNumber_116 (by decide) (fun c4 => ?_) (fun c4 => ?_)
      · have hf := (if_pos c4).symm.trans hf
        refine lv_iconst (v := 1) hx hb dX7_readNumber_123 (by decide) ?_
        refine lv_goto (tgt := 128) hx hb dX7_readNumber_124 (by decide) ?_
        exact J3 1 hf H locs ls hP hD hS (lv_sub hl [] rfl)
      · have hf := (if_neg c4).symm.trans hf
        refine lv_iload_n hx hb dX7_readNumber_119 rfl (lv_at hl 0 rfl) ?_
        refine lv_if_eq (tgt := 127) hx hb dX7_readNumber_120 (by decide) (fun c5 => ?_) (fun c5 => ?_)
        · have hf := (if_pos c5).symm.trans hf
          refine lv_iconst (v := 2) hx hb dX7_readNumber_127 (by decide) ?_
          exact J3 2 hf H locs ls hP hD hS (lv_sub hl [] rfl)
        · have hf := (if_neg c5).symm.trans hf
          refine lv_iconst (v := 1) hx hb dX7_readNumber_123 (by decide) ?_
          refine lv_goto (tgt := 128) hx hb dX7_readNumber_124 (by decide) ?_
          exact J3 1 hf H locs ls hP hD hS (lv_sub hl [] rfl)
    refine lv_icmp_le (tgt := 111) hx hb dX7_readNumber_91 (by decide) (fun c6 => ?_) (fun c6 => ?_)
    · have hf := (if_pos c6).symm.trans hf
      refine lv_iconst (v := 0) hx hb dX7_readNumber_111 (by decide) ?_
      exact J2 0 hf H locs ls hP hD hS (lv_sub hl [1, 0] rfl)
    · have hf := (if_neg c6).symm.trans hf
      refine lv_aload_n hx hb dX7_readNumber_94 rfl (lv_at hl 1 rfl) ?_
      refine lv_aload_n hx hb dX7_readNumber_95 rfl (lv_at hl 1 rfl) ?_
      refine r_get X hP 0 (wX7_g0_0 _ _ _) rfl inc_X7 2 (by decide) fl_X7_19 rfl dX7_readNumber_96 ?_
      obtain ⟨z7, hz7, hf⟩ := obd hf
      refine cV_allI X (As := [.int (g1 0 2)]) (rest := []) (c_X7_byteAt l E a g1 (g1 0 2) hz7) pv_X7_byteAt ml_X7_31 ⟨rfl, rfl⟩ ⟨(Nat.le_of_ble_eq_true rfl), (Nat.le_of_ble_eq_true rfl)⟩ hP hD hS (wX7_g0_0 _ _ _) rfl (wX7_adr _ _ _ _) rfl hl.1 rfl (Nat.le_of_ble_eq_true rfl) dX7_readNumber_99 ⟨Nat.le_refl _, Nat.le_refl _⟩ (fun H locs hP hD hS => ?_)
      refine lv_bipush (v := 48) hx hb dX7_readNumber_102 (by decide) ?_
      refine lv_icmp_ne (tgt := 111) hx hb dX7_readNumber_104 (by decide) (fun c8 => ?_) (fun c8 => ?_)
      · have hf := (if_neg c8).symm.trans hf
        refine lv_iconst (v := 0) hx hb dX7_readNumber_111 (by decide) ?_
        exact J2 0 hf H locs ls hP hD hS (lv_sub hl [1, 0] rfl)
      · have hf := (if_pos c8).symm.trans hf
        refine lv_iconst (v := 1) hx hb dX7_readNumber_107 (by decide) ?_
        refine lv_goto (tgt := 112) hx hb dX7_readNumber_108 (by decide) ?_
        exact J2 1 hf H locs ls hP hD hS (lv_sub hl [1, 0] rfl)
  have L11 := lc1_ind (o := out) (step := (s_X7_readNumber_5 j_X7_readNumber_1)) (fun g9 => ∀ (H : Heap) (locs : List Loc) (ls : Array Slot), va_P E.1 vwCl (wX7 E a g9) H → va_D A (wX7 E a g9) → va_S A s.heap H locs → lv_has ls 3 [(0, .ref (a 0))] → W p l e rm_X7_readNumber s m ([.ref (a 0)] : List Value).toArray below meth c H locs 0 0 (MQ below (va_Qv (fun _ : Unit => True) (fun _ t => QW E (wX7 E a out) t) A) ([.ref (a 0)] : List Value).toArray s 0 0 A) (F0 m 5 ls [])) (fun g9 k10 ih11 hf H locs ls hP hD hS hl => by
    refine lv_aload_n hx hb dX7_readNumber_5 rfl (lv_at hl 0 rfl) ?_
    refine r_get X hP 0 (wX7_g0_0 _ _ _) rfl inc_X7 3 (by decide) fl_X7_22 rfl dX7_readNumber_6 ?_
    refine lv_aload_n hx hb dX7_readNumber_9 rfl (lv_at hl 0 rfl) ?_
    refine r_get X hP 0 (wX7_g0_0 _ _ _) rfl inc_X7 0 (by decide) fl_X7_9 rfl dX7_readNumber_10 ?_
    refine lv_icmp_ge (tgt := 79) hx hb dX7_readNumber_13 (by decide) (fun c12 => ?_) (fun c12 => ?_)
    · have hf := (if_pos c12).symm.trans hf
      exact J1 g9 hf H locs ls hP hD hS (lv_sub hl [0] rfl)
    · have hf := (if_neg c12).symm.trans hf
      refine lv_aload_n hx hb dX7_readNumber_16 rfl (lv_at hl 0 rfl) ?_
      refine lv_aload_n hx hb dX7_readNumber_17 rfl (lv_at hl 0 rfl) ?_
      refine r_get X hP 0 (wX7_g0_0 _ _ _) rfl inc_X7 3 (by decide) fl_X7_22 rfl dX7_readNumber_18 ?_
      obtain ⟨z13, hz13, hf⟩ := obd hf
      refine cV_allI X (As := [.int (g9 0 3)]) (rest := []) (c_X7_byteAt l E a g9 (g9 0 3) hz13) pv_X7_byteAt ml_X7_31 ⟨rfl, rfl⟩ ⟨(Nat.le_of_ble_eq_true rfl), (Nat.le_of_ble_eq_true rfl)⟩ hP hD hS (wX7_g0_0 _ _ _) rfl (wX7_adr _ _ _ _) rfl hl.1 rfl (Nat.le_of_ble_eq_true rfl) dX7_readNumber_21 ⟨Nat.le_refl _, Nat.le_refl _⟩ (fun H locs hP hD hS => ?_)
      obtain ⟨z14, hz14, hf⟩ := obd hf
      refine cS_roI X (As := [.int z13]) (rest := []) (c_X7_isDigit l E z13 hz14) ps_X7_isDigit ml_X7_42 ⟨rfl, rfl⟩ ⟨(Nat.le_of_ble_eq_true rfl), (Nat.le_of_ble_eq_true rfl)⟩ hP hD hS (is := []) (wc := []) rfl rfl rfl hl.1 rfl (Nat.le_of_ble_eq_true rfl) dX7_readNumber_24 ⟨Nat.le_refl _, Nat.le_refl _⟩ (fun H locs hP hS => ?_)
      refine lv_if_eq (tgt := 79) hx hb dX7_readNumber_27 (by decide) (fun c15 => ?_) (fun c15 => ?_)
      · have hf := (if_pos c15).symm.trans hf
        exact J1 g9 hf H locs ls hP hD hS (lv_sub hl [0] rfl)
      · have hf := (if_neg c15).symm.trans hf
        refine lv_aload_n hx hb dX7_readNumber_30 rfl (lv_at hl 0 rfl) ?_
        refine r_get X hP 0 (wX7_g0_0 _ _ _) rfl inc_X7 3 (by decide) fl_X7_22 rfl dX7_readNumber_31 ?_
        refine lv_aload_n hx hb dX7_readNumber_34 rfl (lv_at hl 0 rfl) ?_
        refine r_get X hP 0 (wX7_g0_0 _ _ _) rfl inc_X7 2 (by decide) fl_X7_19 rfl dX7_readNumber_35 ?_
        refine lv_isub hx hb dX7_readNumber_38 ?_
        refine lv_iconst (v := 2) hx hb dX7_readNumber_39 (by decide) ?_
        have J4 : ∀ (g16 : Sg), j_X7_readNumber_4 k10 g16 = some out → ∀ (H : Heap) (locs : List Loc) (ls : Array Slot), va_P E.1 vwCl (wX7 E a g16) H → va_D A (wX7 E a g16) → va_S A s.heap H locs → lv_has ls 3 [(0, .ref (a 0))] → W p l e rm_X7_readNumber s m ([.ref (a 0)] : List Value).toArray below meth c H locs 0 0 (MQ below (va_Qv (fun _ : Unit => True) (fun _ t => QW E (wX7 E a out) t) A) ([.ref (a 0)] : List Value).toArray s 0 0 A) (F0 m 66 ls []) := by
          intro g16 hf H locs ls hP hD hS hl
          refine lv_aload_n hx hb dX7_readNumber_66 rfl (lv_at hl 0 rfl) ?_
          refine lv_dup hx hb dX7_readNumber_67 rfl ?_
          refine r_get X hP 0 (wX7_g0_0 _ _ _) rfl inc_X7 3 (by decide) fl_X7_22 rfl dX7_readNumber_68 ?_
          refine lv_iconst (v := 1) hx hb dX7_readNumber_71 (by decide) ?_
          refine lv_iadd hx hb dX7_readNumber_72 ?_
          refine r_put X hP hD hS 0 (wX7_g0_0 _ _ _) rfl inc_X7 tyX7 tyX7_ok nmX7 3 (by decide) fl_X7_22 rfl (ty := .int) rfl rfl rfl (Nat.le_of_ble_eq_true rfl) (wX7_s0_0_3 _ _ _ _) dX7_readNumber_73 (fun H locs hP hD hS => ?_)
          refine lv_goto (tgt := 5) hx hb dX7_readNumber_76 (by decide) ?_
          exact ih11 (sg_st g16 0 3 ((g16 0 3) + 1)) hf H locs ls hP hD hS (lv_sub hl [0] rfl)
        refine lv_icmp_ge (tgt := 66) hx hb dX7_readNumber_40 (by decide) (fun c17 => ?_) (fun c17 => ?_)
        · have hf := (if_pos c17).symm.trans hf
          exact J4 g9 hf H locs ls hP hD hS (lv_sub hl [0] rfl)
        · have hf := (if_neg c17).symm.trans hf
          refine lv_aload_n hx hb dX7_readNumber_43 rfl (lv_at hl 0 rfl) ?_
          refine lv_bipush (v := 10) hx hb dX7_readNumber_44 (by decide) ?_
          refine lv_aload_n hx hb dX7_readNumber_46 rfl (lv_at hl 0 rfl) ?_
          refine r_get X hP 0 (wX7_g0_0 _ _ _) rfl inc_X7 5 (by decide) fl_X7_28 rfl dX7_readNumber_47 ?_
          refine lv_imul hx hb dX7_readNumber_50 ?_
          refine lv_aload_n hx hb dX7_readNumber_51 rfl (lv_at hl 0 rfl) ?_
          refine lv_aload_n hx hb dX7_readNumber_52 rfl (lv_at hl 0 rfl) ?_
          refine r_get X hP 0 (wX7_g0_0 _ _ _) rfl inc_X7 3 (by decide) fl_X7_22 rfl dX7_readNumber_53 ?_
          obtain ⟨z18, hz18, hf⟩ := obd hf
          refine cV_allI X (As := [.int (g9 0 3)]) (rest := [.int (10 * (g9 0 5)), .ref (a 0)]) (c_X7_byteAt l E a g9 (g9 0 3) hz18) pv_X7_byteAt ml_X7_31 ⟨rfl, rfl⟩ ⟨(Nat.le_of_ble_eq_true rfl), (Nat.le_of_ble_eq_true rfl)⟩ hP hD hS (wX7_g0_0 _ _ _) rfl (wX7_adr _ _ _ _) rfl hl.1 rfl (Nat.le_of_ble_eq_true rfl) dX7_readNumber_56 ⟨Nat.le_refl _, Nat.le_refl _⟩ (fun H locs hP hD hS => ?_)
          refine lv_iadd hx hb dX7_readNumber_59 ?_
          refine lv_bipush (v := 48) hx hb dX7_readNumber_60 (by decide) ?_
          refine lv_isub hx hb dX7_readNumber_62 ?_
          refine r_put X hP hD hS 0 (wX7_g0_0 _ _ _) rfl inc_X7 tyX7 tyX7_ok nmX7 5 (by decide) fl_X7_28 rfl (ty := .int) rfl rfl rfl (Nat.le_of_ble_eq_true rfl) (wX7_s0_0_5 _ _ _ _) dX7_readNumber_63 (fun H locs hP hD hS => ?_)
          exact J4 (sg_st g9 0 5 (((10 * (g9 0 5)) + z18) - 48)) hf H locs ls hP hD hS (lv_sub hl [0] rfl))
  exact L11 1000 (sg_st σ 0 5 0) hf H locs ls hP hD hS (lv_sub hl [0] rfl)
def rm_X7_isWord : Room := { frames := 4, cells := 0, slots := 0, locals := 85 }
theorem pv_X7_isWord : PkV RX7 yX7_isWord cX7_isWord 3 (some .boolean) 1 := ⟨im_X7_isWord, se_X7_isWord, ini_X7, cd_X7_isWord, by decide +kernel⟩
set_option maxHeartbeats 4000000 in
set_option maxRecDepth 100000 in
theorem c_X7_isWord (l : Launch) (E : Ev) (a : Nat → Nat) (σ : Sg) (i0 : Nat) {out : Int32} (hf : f_X7_isWord σ i0 = some out) : MtI l yX7_isWord (wl yX7_isWord cX7_isWord 3 (some .boolean)) rm_X7_isWord E [.ref (a 0), .ref (E.2.2 (10 + i0))] (wX7 E a σ) out (wX7 E a σ) := by
  refine mt_of (QQ := (fun A => va_Qi (fun x (_ : Unit) => x = out) (fun _ t => QW E (wX7 E a σ) t) A)) (by decide) (Nat.le_of_ble_eq_true rfl) (fun p e s m below meth c A ls X hr hP hD hS hl => ?_)
  have hx := X.1.1
  have hb := X.1.2.1
  have hl : lv_has ls 3 [(0, .ref (a 0)), (1, .ref (E.2.2 (10 + i0)))] := hl
  obtain ⟨H, hHe⟩ : ∃ H : Heap, H = s.heap := ⟨_, rfl⟩
  obtain ⟨locs, hLe⟩ : ∃ locs : List Loc, locs = [] := ⟨_, rfl⟩
  have hP : va_P E.1 vwCl (wX7 E a σ) H := by rw [hHe]; exact hP
  have hS : va_S A s.heap H locs := by rw [hHe, hLe]; exact hS
  rw [← hLe, show W p l e rm_X7_isWord s m ([.ref (a 0), .ref (E.2.2 (10 + i0))] : List Value).toArray below meth c s.heap locs 0 0 = W p l e rm_X7_isWord s m ([.ref (a 0), .ref (E.2.2 (10 + i0))] : List Value).toArray below meth c H locs 0 0 from by rw [hHe]]
  refine lv_aload_n hx hb dX7_isWord_0 rfl (lv_at hl 0 rfl) ?_
  refine r_get X hP 0 (wX7_g0_0 _ _ _) rfl inc_X7 3 (by decide) fl_X7_22 rfl dX7_isWord_1 ?_
  refine lv_aload_n hx hb dX7_isWord_4 rfl (lv_at hl 0 rfl) ?_
  refine r_get X hP 0 (wX7_g0_0 _ _ _) rfl inc_X7 2 (by decide) fl_X7_19 rfl dX7_isWord_5 ?_
  refine lv_isub hx hb dX7_isWord_8 ?_
  refine lv_aload_n hx hb dX7_isWord_9 rfl (lv_at hl 1 rfl) ?_
  obtain ⟨z1, hz1, hf⟩ := obd hf
  refine cStr X (As := []) (rest := [.int ((σ 0 3) - (σ 0 2))]) (c_J0_length l E i0 hz1) (st_len_lt hz1) pv_J0_length_8abf5 ml_X7_60 ⟨rfl, rfl⟩ ⟨(Nat.le_of_ble_eq_true rfl), (Nat.le_of_ble_eq_true rfl)⟩ hP hD hS rfl hl.1 rfl (Nat.le_of_ble_eq_true rfl) dX7_isWord_10 ⟨Nat.le_refl _, Nat.le_refl _⟩ (fun H locs hP hS => ?_)
  refine lv_icmp_eq (tgt := 18) hx hb dX7_isWord_13 (by decide) (fun c2 => ?_) (fun c2 => ?_)
  · have hf := (if_pos c2).symm.trans hf
    refine lv_iconst (v := 0) hx hb dX7_isWord_18 (by decide) ?_
    refine lv_istore_n (lv' := [(2, .int 0), (0, .ref (a 0)), (1, .ref (E.2.2 (10 + i0)))]) hx hb dX7_isWord_19 rfl hl (by decide) rfl (fun ls hl => ?_)
    have L4 := lc1_ind (o := out) (step := (s_X7_isWord_20 σ i0)) (fun x3 => ∀ (H : Heap) (locs : List Loc) (ls : Array Slot), va_P E.1 vwCl (wX7 E a σ) H → va_D A (wX7 E a σ) → va_S A s.heap H locs → lv_has ls 3 [(0, .ref (a 0)), (1, .ref (E.2.2 (10 + i0))), (2, .int x3)] → W p l e rm_X7_isWord s m ([.ref (a 0), .ref (E.2.2 (10 + i0))] : List Value).toArray below meth c H locs 0 0 (MQ below (va_Qi (fun x (_ : Unit) => x = out) (fun _ t => QW E (wX7 E a σ) t) A) ([.ref (a 0), .ref (E.2.2 (10 + i0))] : List Value).toArray s 0 0 A) (F0 m 20 ls [])) (fun x3 k4 ih4 hf H locs ls hP hD hS hl => by
      refine lv_iload_n hx hb dX7_isWord_20 rfl (lv_at hl 2 rfl) ?_
      refine lv_aload_n hx hb dX7_isWord_21 rfl (lv_at hl 1 rfl) ?_
      obtain ⟨z5, hz5, hf⟩ := obd hf
      refine cStr X (As := []) (rest := [.int x3]) (c_J0_length l E i0 hz5) (st_len_lt hz5) pv_J0_length_8abf5 ml_X7_60 ⟨rfl, rfl⟩ ⟨(Nat.le_of_ble_eq_true rfl), (Nat.le_of_ble_eq_true rfl)⟩ hP hD hS rfl hl.1 rfl (Nat.le_of_ble_eq_true rfl) dX7_isWord_22 ⟨Nat.le_refl _, Nat.le_refl _⟩ (fun H locs hP hS => ?_)
      refine lv_icmp_ge (tgt := 54) hx hb dX7_isWord_25 (by decide) (fun c6 => ?_) (fun c6 => ?_)
      · have hf := (if_pos c6).symm.trans hf
        refine lv_iconst (v := 1) hx hb dX7_isWord_54 (by decide) ?_
        have ho := Option.some.inj hf
        exact r_zret X hr hP hS rfl ho rfl dX7_isWord_55
      · have hf := (if_neg c6).symm.trans hf
        refine lv_aload_n hx hb dX7_isWord_28 rfl (lv_at hl 0 rfl) ?_
        refine lv_aload_n hx hb dX7_isWord_29 rfl (lv_at hl 0 rfl) ?_
        refine r_get X hP 0 (wX7_g0_0 _ _ _) rfl inc_X7 2 (by decide) fl_X7_19 rfl dX7_isWord_30 ?_
        refine lv_iload_n hx hb dX7_isWord_33 rfl (lv_at hl 2 rfl) ?_
        refine lv_iadd hx hb dX7_isWord_34 ?_
        obtain ⟨z7, hz7, hf⟩ := obd hf
        refine cV_allI X (As := [.int ((σ 0 2) + x3)]) (rest := []) (c_X7_byteAt l E a σ ((σ 0 2) + x3) hz7) pv_X7_byteAt ml_X7_31 ⟨rfl, rfl⟩ ⟨(Nat.le_of_ble_eq_true rfl), (Nat.le_of_ble_eq_true rfl)⟩ hP hD hS (wX7_g0_0 _ _ _) rfl (wX7_adr _ _ _ _) rfl hl.1 rfl (Nat.le_of_ble_eq_true rfl) dX7_isWord_35 ⟨Nat.le_refl _, Nat.le_refl _⟩ (fun H locs hP hD hS => ?_)
        refine lv_aload_n hx hb dX7_isWord_38 rfl (lv_at hl 1 rfl) ?_
        refine lv_iload_n hx hb dX7_isWord_39 rfl (lv_at hl 2 rfl) ?_
        obtain ⟨z8, hz8, hf⟩ := obd hf
        refine cStr X (As := [.int x3]) (rest := [.int z7]) (c_J0_charAt l E i0 x3 hz8) (st_at_lt hz8) pv_J0_charAt_5068e ml_X7_65 ⟨rfl, rfl⟩ ⟨(Nat.le_of_ble_eq_true rfl), (Nat.le_of_ble_eq_true rfl)⟩ hP hD hS rfl hl.1 rfl (Nat.le_of_ble_eq_true rfl) dX7_isWord_40 ⟨Nat.le_refl _, Nat.le_refl _⟩ (fun H locs hP hS => ?_)
        refine lv_icmp_eq (tgt := 48) hx hb dX7_isWord_43 (by decide) (fun c9 => ?_) (fun c9 => ?_)
        · have hf := (if_pos c9).symm.trans hf
          refine lv_iinc (v := (x3 + 1)) (lv' := [(2, .int (x3 + 1)), (0, .ref (a 0)), (1, .ref (E.2.2 (10 + i0)))]) hx hb dX7_isWord_48 hl (k := 2) rfl rfl (by decide) rfl (fun ls hl => ?_)
          refine lv_goto (tgt := 20) hx hb dX7_isWord_51 (by decide) ?_
          exact ih4 (x3 + 1) hf H locs ls hP hD hS (lv_sub hl [1, 2, 0] rfl)
        · have hf := (if_neg c9).symm.trans hf
          refine lv_iconst (v := 0) hx hb dX7_isWord_46 (by decide) ?_
          have ho := Option.some.inj hf
          exact r_zret X hr hP hS rfl ho rfl dX7_isWord_47)
    exact L4 1000 0 hf H locs ls hP hD hS (lv_sub hl [1, 2, 0] rfl)
  · have hf := (if_neg c2).symm.trans hf
    refine lv_iconst (v := 0) hx hb dX7_isWord_16 (by decide) ?_
    have ho := Option.some.inj hf
    exact r_zret X hr hP hS rfl ho rfl dX7_isWord_17
def rm_X7_readWord : Room := { frames := 5, cells := 0, slots := 0, locals := 107 }
theorem pv_X7_readWord : PkV RX7 yX7_readWord cX7_readWord 1 none 0 := ⟨im_X7_readWord, se_X7_readWord, ini_X7, cd_X7_readWord, by decide +kernel⟩
set_option maxHeartbeats 4000000 in
set_option maxRecDepth 100000 in
theorem c_X7_readWord (l : Launch) (E : Ev) (a : Nat → Nat) (σ : Sg) {out : Sg} (hf : f_X7_readWord σ = some out) : MtV l yX7_readWord (wl yX7_readWord cX7_readWord 1 none) rm_X7_readWord E [.ref (a 0)] (wX7 E a σ) (wX7 E a out) := by
  refine mt_of (QQ := (fun A => va_Qv (fun _ : Unit => True) (fun _ t => QW E (wX7 E a out) t) A)) (by decide) (Nat.le_of_ble_eq_true rfl) (fun p e s m below meth c A ls X hr hP hD hS hl => ?_)
  have hx := X.1.1
  have hb := X.1.2.1
  have hl : lv_has ls 1 [(0, .ref (a 0))] := hl
  obtain ⟨H, hHe⟩ : ∃ H : Heap, H = s.heap := ⟨_, rfl⟩
  obtain ⟨locs, hLe⟩ : ∃ locs : List Loc, locs = [] := ⟨_, rfl⟩
  have hP : va_P E.1 vwCl (wX7 E a σ) H := by rw [hHe]; exact hP
  have hS : va_S A s.heap H locs := by rw [hHe, hLe]; exact hS
  rw [← hLe, show W p l e rm_X7_readWord s m ([.ref (a 0)] : List Value).toArray below meth c s.heap locs 0 0 = W p l e rm_X7_readWord s m ([.ref (a 0)] : List Value).toArray below meth c H locs 0 0 from by rw [hHe]]
  have J1 : ∀ (g1 : Sg), j_X7_readWord_1 g1 = some out → ∀ (H : Heap) (locs : List Loc) (ls : Array Slot), va_P E.1 vwCl (wX7 E a g1) H → va_D A (wX7 E a g1) → va_S A s.heap H locs → lv_has ls 1 [(0, .ref (a 0))] → W p l e rm_X7_readWord s m ([.ref (a 0)] : List Value).toArray below meth c H locs 0 0 (MQ below (va_Qv (fun _ : Unit => True) (fun _ t => QW E (wX7 E a out) t) A) ([.ref (a 0)] : List Value).toArray s 0 0 A) (F0 m 38 ls []) := by
    intro g1 hf H locs ls hP hD hS hl
    refine lv_aload_n hx hb dX7_readWord_38 rfl (lv_at hl 0 rfl) ?_
    refine va_ldcS hx hb X.1.2.2.2.1 (X.2.2.1.str 0 (by decide)) dX7_readWord_39 ?_
    obtain ⟨z2, hz2, hf⟩ := obd hf
    refine cV_allI X (As := [.ref (E.2.2 (10 + 0))]) (rest := []) (c_X7_isWord l E a g1 0 hz2) pv_X7_isWord ml_X7_50 ⟨rfl, rfl⟩ ⟨(Nat.le_of_ble_eq_true rfl), (Nat.le_of_ble_eq_true rfl)⟩ hP hD hS (wX7_g0_0 _ _ _) rfl (wX7_adr _ _ _ _) rfl hl.1 rfl (Nat.le_of_ble_eq_true rfl) dX7_readWord_41 ⟨Nat.le_refl _, Nat.le_refl _⟩ (fun H locs hP hD hS => ?_)
    refine lv_if_eq (tgt := 55) hx hb dX7_readWord_44 (by decide) (fun c3 => ?_) (fun c3 => ?_)
    · have hf := (if_pos c3).symm.trans hf
      refine lv_aload_n hx hb dX7_readWord_55 rfl (lv_at hl 0 rfl) ?_
      refine va_ldcS hx hb X.1.2.2.2.1 (X.2.2.1.str 1 (by decide)) dX7_readWord_56 ?_
      obtain ⟨z4, hz4, hf⟩ := obd hf
      refine cV_allI X (As := [.ref (E.2.2 (10 + 1))]) (rest := []) (c_X7_isWord l E a g1 1 hz4) pv_X7_isWord ml_X7_50 ⟨rfl, rfl⟩ ⟨(Nat.le_of_ble_eq_true rfl), (Nat.le_of_ble_eq_true rfl)⟩ hP hD hS (wX7_g0_0 _ _ _) rfl (wX7_adr _ _ _ _) rfl hl.1 rfl (Nat.le_of_ble_eq_true rfl) dX7_readWord_58 ⟨Nat.le_refl _, Nat.le_refl _⟩ (fun H locs hP hD hS => ?_)
      refine lv_if_eq (tgt := 72) hx hb dX7_readWord_61 (by decide) (fun c5 => ?_) (fun c5 => ?_)
      · have hf := (if_pos c5).symm.trans hf
        refine lv_aload_n hx hb dX7_readWord_72 rfl (lv_at hl 0 rfl) ?_
        refine va_ldcS hx hb X.1.2.2.2.1 (X.2.2.1.str 2 (by decide)) dX7_readWord_73 ?_
        obtain ⟨z6, hz6, hf⟩ := obd hf
        refine cV_allI X (As := [.ref (E.2.2 (10 + 2))]) (rest := []) (c_X7_isWord l E a g1 2 hz6) pv_X7_isWord ml_X7_50 ⟨rfl, rfl⟩ ⟨(Nat.le_of_ble_eq_true rfl), (Nat.le_of_ble_eq_true rfl)⟩ hP hD hS (wX7_g0_0 _ _ _) rfl (wX7_adr _ _ _ _) rfl hl.1 rfl (Nat.le_of_ble_eq_true rfl) dX7_readWord_75 ⟨Nat.le_refl _, Nat.le_refl _⟩ (fun H locs hP hD hS => ?_)
        refine lv_if_eq (tgt := 90) hx hb dX7_readWord_78 (by decide) (fun c7 => ?_) (fun c7 => ?_)
        · have hf := (if_pos c7).symm.trans hf
          refine lv_aload_n hx hb dX7_readWord_90 rfl (lv_at hl 0 rfl) ?_
          refine va_ldcS hx hb X.1.2.2.2.1 (X.2.2.1.str 3 (by decide)) dX7_readWord_91 ?_
          obtain ⟨z8, hz8, hf⟩ := obd hf
          refine cV_allI X (As := [.ref (E.2.2 (10 + 3))]) (rest := []) (c_X7_isWord l E a g1 3 hz8) pv_X7_isWord ml_X7_50 ⟨rfl, rfl⟩ ⟨(Nat.le_of_ble_eq_true rfl), (Nat.le_of_ble_eq_true rfl)⟩ hP hD hS (wX7_g0_0 _ _ _) rfl (wX7_adr _ _ _ _) rfl hl.1 rfl (Nat.le_of_ble_eq_true rfl) dX7_readWord_93 ⟨Nat.le_refl _, Nat.le_refl _⟩ (fun H locs hP hD hS => ?_)
          refine lv_if_eq (tgt := 108) hx hb dX7_readWord_96 (by decide) (fun c9 => ?_) (fun c9 => ?_)
          · have hf := (if_pos c9).symm.trans hf
            refine lv_aload_n hx hb dX7_readWord_108 rfl (lv_at hl 0 rfl) ?_
            refine lv_iconst (v := 1) hx hb dX7_readWord_109 (by decide) ?_
            refine r_put X hP hD hS 0 (wX7_g0_0 _ _ _) rfl inc_X7 tyX7 tyX7_ok nmX7 4 (by decide) fl_X7_25 rfl (ty := .int) rfl rfl rfl (Nat.le_of_ble_eq_true rfl) (wX7_s0_0_4 _ _ _ _) dX7_readWord_110 (fun H locs hP hD hS => ?_)
            have ho := Option.some.inj hf
            have hw := congrArg (fun o : Sg => (wX7 E a o)) ho
            exact r_vret X hr hP hS hw dX7_readWord_113
          · have hf := (if_neg c9).symm.trans hf
            refine lv_aload_n hx hb dX7_readWord_99 rfl (lv_at hl 0 rfl) ?_
            refine lv_bipush (v := 7) hx hb dX7_readWord_100 (by decide) ?_
            refine r_put X hP hD hS 0 (wX7_g0_0 _ _ _) rfl inc_X7 tyX7 tyX7_ok nmX7 4 (by decide) fl_X7_25 rfl (ty := .int) rfl rfl rfl (Nat.le_of_ble_eq_true rfl) (wX7_s0_0_4 _ _ _ _) dX7_readWord_102 (fun H locs hP hD hS => ?_)
            refine lv_goto (tgt := 113) hx hb dX7_readWord_105 (by decide) ?_
            have ho := Option.some.inj hf
            have hw := congrArg (fun o : Sg => (wX7 E a o)) ho
            exact r_vret X hr hP hS hw dX7_readWord_113
        · have hf := (if_neg c7).symm.trans hf
          refine lv_aload_n hx hb dX7_readWord_81 rfl (lv_at hl 0 rfl) ?_
          refine lv_bipush (v := 6) hx hb dX7_readWord_82 (by decide) ?_
          refine r_put X hP hD hS 0 (wX7_g0_0 _ _ _) rfl inc_X7 tyX7 tyX7_ok nmX7 4 (by decide) fl_X7_25 rfl (ty := .int) rfl rfl rfl (Nat.le_of_ble_eq_true rfl) (wX7_s0_0_4 _ _ _ _) dX7_readWord_84 (fun H locs hP hD hS => ?_)
          refine lv_goto (tgt := 113) hx hb dX7_readWord_87 (by decide) ?_
          have ho := Option.some.inj hf
          have hw := congrArg (fun o : Sg => (wX7 E a o)) ho
          exact r_vret X hr hP hS hw dX7_readWord_113
      · have hf := (if_neg c5).symm.trans hf
        refine lv_aload_n hx hb dX7_readWord_64 rfl (lv_at hl 0 rfl) ?_
        refine lv_iconst (v := 5) hx hb dX7_readWord_65 (by decide) ?_
        refine r_put X hP hD hS 0 (wX7_g0_0 _ _ _) rfl inc_X7 tyX7 tyX7_ok nmX7 4 (by decide) fl_X7_25 rfl (ty := .int) rfl rfl rfl (Nat.le_of_ble_eq_true rfl) (wX7_s0_0_4 _ _ _ _) dX7_readWord_66 (fun H locs hP hD hS => ?_)
        refine lv_goto (tgt := 113) hx hb dX7_readWord_69 (by decide) ?_
        have ho := Option.some.inj hf
        have hw := congrArg (fun o : Sg => (wX7 E a o)) ho
        exact r_vret X hr hP hS hw dX7_readWord_113
    · have hf := (if_neg c3).symm.trans hf
      refine lv_aload_n hx hb dX7_readWord_47 rfl (lv_at hl 0 rfl) ?_
      refine lv_iconst (v := 4) hx hb dX7_readWord_48 (by decide) ?_
      refine r_put X hP hD hS 0 (wX7_g0_0 _ _ _) rfl inc_X7 tyX7 tyX7_ok nmX7 4 (by decide) fl_X7_25 rfl (ty := .int) rfl rfl rfl (Nat.le_of_ble_eq_true rfl) (wX7_s0_0_4 _ _ _ _) dX7_readWord_49 (fun H locs hP hD hS => ?_)
      refine lv_goto (tgt := 113) hx hb dX7_readWord_52 (by decide) ?_
      have ho := Option.some.inj hf
      have hw := congrArg (fun o : Sg => (wX7 E a o)) ho
      exact r_vret X hr hP hS hw dX7_readWord_113
  have L12 := lc1_ind (o := out) (step := (s_X7_readWord_0 j_X7_readWord_1)) (fun g10 => ∀ (H : Heap) (locs : List Loc) (ls : Array Slot), va_P E.1 vwCl (wX7 E a g10) H → va_D A (wX7 E a g10) → va_S A s.heap H locs → lv_has ls 1 [(0, .ref (a 0))] → W p l e rm_X7_readWord s m ([.ref (a 0)] : List Value).toArray below meth c H locs 0 0 (MQ below (va_Qv (fun _ : Unit => True) (fun _ t => QW E (wX7 E a out) t) A) ([.ref (a 0)] : List Value).toArray s 0 0 A) (F0 m 0 ls [])) (fun g10 k11 ih12 hf H locs ls hP hD hS hl => by
    refine lv_aload_n hx hb dX7_readWord_0 rfl (lv_at hl 0 rfl) ?_
    refine r_get X hP 0 (wX7_g0_0 _ _ _) rfl inc_X7 3 (by decide) fl_X7_22 rfl dX7_readWord_1 ?_
    refine lv_aload_n hx hb dX7_readWord_4 rfl (lv_at hl 0 rfl) ?_
    refine r_get X hP 0 (wX7_g0_0 _ _ _) rfl inc_X7 0 (by decide) fl_X7_9 rfl dX7_readWord_5 ?_
    refine lv_icmp_ge (tgt := 38) hx hb dX7_readWord_8 (by decide) (fun c13 => ?_) (fun c13 => ?_)
    · have hf := (if_pos c13).symm.trans hf
      exact J1 g10 hf H locs ls hP hD hS (lv_sub hl [0] rfl)
    · have hf := (if_neg c13).symm.trans hf
      refine lv_aload_n hx hb dX7_readWord_11 rfl (lv_at hl 0 rfl) ?_
      refine lv_aload_n hx hb dX7_readWord_12 rfl (lv_at hl 0 rfl) ?_
      refine r_get X hP 0 (wX7_g0_0 _ _ _) rfl inc_X7 3 (by decide) fl_X7_22 rfl dX7_readWord_13 ?_
      obtain ⟨z14, hz14, hf⟩ := obd hf
      refine cV_allI X (As := [.int (g10 0 3)]) (rest := []) (c_X7_byteAt l E a g10 (g10 0 3) hz14) pv_X7_byteAt ml_X7_31 ⟨rfl, rfl⟩ ⟨(Nat.le_of_ble_eq_true rfl), (Nat.le_of_ble_eq_true rfl)⟩ hP hD hS (wX7_g0_0 _ _ _) rfl (wX7_adr _ _ _ _) rfl hl.1 rfl (Nat.le_of_ble_eq_true rfl) dX7_readWord_16 ⟨Nat.le_refl _, Nat.le_refl _⟩ (fun H locs hP hD hS => ?_)
      obtain ⟨z15, hz15, hf⟩ := obd hf
      refine cS_roI X (As := [.int z14]) (rest := []) (c_X7_isLetter l E z14 hz15) ps_X7_isLetter ml_X7_35 ⟨rfl, rfl⟩ ⟨(Nat.le_of_ble_eq_true rfl), (Nat.le_of_ble_eq_true rfl)⟩ hP hD hS (is := []) (wc := []) rfl rfl rfl hl.1 rfl (Nat.le_of_ble_eq_true rfl) dX7_readWord_19 ⟨Nat.le_refl _, Nat.le_refl _⟩ (fun H locs hP hS => ?_)
      refine lv_if_eq (tgt := 38) hx hb dX7_readWord_22 (by decide) (fun c16 => ?_) (fun c16 => ?_)
      · have hf := (if_pos c16).symm.trans hf
        exact J1 g10 hf H locs ls hP hD hS (lv_sub hl [0] rfl)
      · have hf := (if_neg c16).symm.trans hf
        refine lv_aload_n hx hb dX7_readWord_25 rfl (lv_at hl 0 rfl) ?_
        refine lv_dup hx hb dX7_readWord_26 rfl ?_
        refine r_get X hP 0 (wX7_g0_0 _ _ _) rfl inc_X7 3 (by decide) fl_X7_22 rfl dX7_readWord_27 ?_
        refine lv_iconst (v := 1) hx hb dX7_readWord_30 (by decide) ?_
        refine lv_iadd hx hb dX7_readWord_31 ?_
        refine r_put X hP hD hS 0 (wX7_g0_0 _ _ _) rfl inc_X7 tyX7 tyX7_ok nmX7 3 (by decide) fl_X7_22 rfl (ty := .int) rfl rfl rfl (Nat.le_of_ble_eq_true rfl) (wX7_s0_0_3 _ _ _ _) dX7_readWord_32 (fun H locs hP hD hS => ?_)
        refine lv_goto (tgt := 0) hx hb dX7_readWord_35 (by decide) ?_
        exact ih12 (sg_st g10 0 3 ((g10 0 3) + 1)) hf H locs ls hP hD hS (lv_sub hl [0] rfl))
  exact L12 1000 σ hf H locs ls hP hD hS (lv_sub hl [0] rfl)
def rm_X7_readToken : Room := { frames := 6, cells := 0, slots := 0, locals := 127 }
theorem pv_X7_readToken : PkV RX7 yX7_readToken cX7_readToken 2 none 0 := ⟨im_X7_readToken, se_X7_readToken, ini_X7, cd_X7_readToken, by decide +kernel⟩
set_option maxHeartbeats 4000000 in
set_option maxRecDepth 100000 in
theorem c_X7_readToken (l : Launch) (E : Ev) (a : Nat → Nat) (σ : Sg) {out : Sg} (hf : f_X7_readToken σ = some out) : MtV l yX7_readToken (wl yX7_readToken cX7_readToken 2 none) rm_X7_readToken E [.ref (a 0)] (wX7 E a σ) (wX7 E a out) := by
  refine mt_of (QQ := (fun A => va_Qv (fun _ : Unit => True) (fun _ t => QW E (wX7 E a out) t) A)) (by decide) (Nat.le_of_ble_eq_true rfl) (fun p e s m below meth c A ls X hr hP hD hS hl => ?_)
  have hx := X.1.1
  have hb := X.1.2.1
  have hl : lv_has ls 2 [(0, .ref (a 0))] := hl
  obtain ⟨H, hHe⟩ : ∃ H : Heap, H = s.heap := ⟨_, rfl⟩
  obtain ⟨locs, hLe⟩ : ∃ locs : List Loc, locs = [] := ⟨_, rfl⟩
  have hP : va_P E.1 vwCl (wX7 E a σ) H := by rw [hHe]; exact hP
  have hS : va_S A s.heap H locs := by rw [hHe, hLe]; exact hS
  rw [← hLe, show W p l e rm_X7_readToken s m ([.ref (a 0)] : List Value).toArray below meth c s.heap locs 0 0 = W p l e rm_X7_readToken s m ([.ref (a 0)] : List Value).toArray below meth c H locs 0 0 from by rw [hHe]]
  have J1 : ∀ (g1 : Sg), j_X7_readToken_1 g1 = some out → ∀ (H : Heap) (locs : List Loc) (ls : Array Slot), va_P E.1 vwCl (wX7 E a g1) H → va_D A (wX7 E a g1) → va_S A s.heap H locs → lv_has ls 2 [(0, .ref (a 0))] → W p l e rm_X7_readToken s m ([.ref (a 0)] : List Value).toArray below meth c H locs 0 0 (MQ below (va_Qv (fun _ : Unit => True) (fun _ t => QW E (wX7 E a out) t) A) ([.ref (a 0)] : List Value).toArray s 0 0 A) (F0 m 37 ls []) := by
    intro g1 hf H locs ls hP hD hS hl
    refine lv_aload_n hx hb dX7_readToken_37 rfl (lv_at hl 0 rfl) ?_
    refine lv_aload_n hx hb dX7_readToken_38 rfl (lv_at hl 0 rfl) ?_
    refine r_get X hP 0 (wX7_g0_0 _ _ _) rfl inc_X7 3 (by decide) fl_X7_22 rfl dX7_readToken_39 ?_
    refine r_put X hP hD hS 0 (wX7_g0_0 _ _ _) rfl inc_X7 tyX7 tyX7_ok nmX7 2 (by decide) fl_X7_19 rfl (ty := .int) rfl rfl rfl (Nat.le_of_ble_eq_true rfl) (wX7_s0_0_2 _ _ _ _) dX7_readToken_42 (fun H locs hP hD hS => ?_)
    refine lv_aload_n hx hb dX7_readToken_45 rfl (lv_at hl 0 rfl) ?_
    refine lv_aload_n hx hb dX7_readToken_46 rfl (lv_at hl 0 rfl) ?_
    refine r_get X hP 0 (wX7_g0_0 _ _ _) rfl inc_X7 2 (by decide) fl_X7_19 rfl dX7_readToken_47 ?_
    obtain ⟨z2, hz2, hf⟩ := obd hf
    refine cV_allI X (As := [.int ((sg_st g1 0 2 (g1 0 3)) 0 2)]) (rest := []) (c_X7_byteAt l E a (sg_st g1 0 2 (g1 0 3)) ((sg_st g1 0 2 (g1 0 3)) 0 2) hz2) pv_X7_byteAt ml_X7_31 ⟨rfl, rfl⟩ ⟨(Nat.le_of_ble_eq_true rfl), (Nat.le_of_ble_eq_true rfl)⟩ hP hD hS (wX7_g0_0 _ _ _) rfl (wX7_adr _ _ _ _) rfl hl.1 rfl (Nat.le_of_ble_eq_true rfl) dX7_readToken_50 ⟨Nat.le_refl _, Nat.le_refl _⟩ (fun H locs hP hD hS => ?_)
    refine lv_istore_n (lv' := [(1, .int z2), (0, .ref (a 0))]) hx hb dX7_readToken_53 rfl hl (by decide) rfl (fun ls hl => ?_)
    refine lv_iload_n hx hb dX7_readToken_54 rfl (lv_at hl 0 rfl) ?_
    refine lv_if_ge (tgt := 66) hx hb dX7_readToken_55 (by decide) (fun c3 => ?_) (fun c3 => ?_)
    · have hf := (if_pos c3).symm.trans hf
      refine lv_iload_n hx hb dX7_readToken_66 rfl (lv_at hl 0 rfl) ?_
      obtain ⟨z4, hz4, hf⟩ := obd hf
      refine cS_roI X (As := [.int z2]) (rest := []) (c_X7_isLetter l E z2 hz4) ps_X7_isLetter ml_X7_35 ⟨rfl, rfl⟩ ⟨(Nat.le_of_ble_eq_true rfl), (Nat.le_of_ble_eq_true rfl)⟩ hP hD hS (is := []) (wc := []) rfl rfl rfl hl.1 rfl (Nat.le_of_ble_eq_true rfl) dX7_readToken_67 ⟨Nat.le_refl _, Nat.le_refl _⟩ (fun H locs hP hS => ?_)
      refine lv_if_eq (tgt := 80) hx hb dX7_readToken_70 (by decide) (fun c5 => ?_) (fun c5 => ?_)
      · have hf := (if_pos c5).symm.trans hf
        refine lv_iload_n hx hb dX7_readToken_80 rfl (lv_at hl 0 rfl) ?_
        obtain ⟨z6, hz6, hf⟩ := obd hf
        refine cS_roI X (As := [.int z2]) (rest := []) (c_X7_isDigit l E z2 hz6) ps_X7_isDigit ml_X7_42 ⟨rfl, rfl⟩ ⟨(Nat.le_of_ble_eq_true rfl), (Nat.le_of_ble_eq_true rfl)⟩ hP hD hS (is := []) (wc := []) rfl rfl rfl hl.1 rfl (Nat.le_of_ble_eq_true rfl) dX7_readToken_81 ⟨Nat.le_refl _, Nat.le_refl _⟩ (fun H locs hP hS => ?_)
        refine lv_if_eq (tgt := 94) hx hb dX7_readToken_84 (by decide) (fun c7 => ?_) (fun c7 => ?_)
        · have hf := (if_pos c7).symm.trans hf
          refine lv_aload_n hx hb dX7_readToken_94 rfl (lv_at hl 1 rfl) ?_
          refine lv_iload_n hx hb dX7_readToken_95 rfl (lv_at hl 0 rfl) ?_
          refine lv_bipush (v := 59) hx hb dX7_readToken_96 (by decide) ?_
          have J2 : ∀ (x8 : Int32), j_X7_readToken_2 g1 x8 = some out → ∀ (H : Heap) (locs : List Loc) (ls : Array Slot), va_P E.1 vwCl (wX7 E a (sg_st g1 0 2 (g1 0 3))) H → va_D A (wX7 E a (sg_st g1 0 2 (g1 0 3))) → va_S A s.heap H locs → lv_has ls 2 [(0, .ref (a 0))] → W p l e rm_X7_readToken s m ([.ref (a 0)] : List Value).toArray below meth c H locs 0 0 (MQ below (va_Qv (fun _ : Unit => True) (fun _ t => QW E (wX7 E a out) t) A) ([.ref (a 0)] : List Value).toArray s 0 0 A) (F0 m 106 ls [.int x8, .ref (a 0)]) := by
            intro x8 hf H locs ls hP hD hS hl
            refine r_put X hP hD hS 0 (wX7_g0_0 _ _ _) rfl inc_X7 tyX7 tyX7_ok nmX7 4 (by decide) fl_X7_25 rfl (ty := .int) rfl rfl rfl (Nat.le_of_ble_eq_true rfl) (wX7_s0_0_4 _ _ _ _) dX7_readToken_106 (fun H locs hP hD hS => ?_)
            refine lv_aload_n hx hb dX7_readToken_109 rfl (lv_at hl 0 rfl) ?_
            refine lv_dup hx hb dX7_readToken_110 rfl ?_
            refine r_get X hP 0 (wX7_g0_0 _ _ _) rfl inc_X7 3 (by decide) fl_X7_22 rfl dX7_readToken_111 ?_
            refine lv_iconst (v := 1) hx hb dX7_readToken_114 (by decide) ?_
            refine lv_iadd hx hb dX7_readToken_115 ?_
            refine r_put X hP hD hS 0 (wX7_g0_0 _ _ _) rfl inc_X7 tyX7 tyX7_ok nmX7 3 (by decide) fl_X7_22 rfl (ty := .int) rfl rfl rfl (Nat.le_of_ble_eq_true rfl) (wX7_s0_0_3 _ _ _ _) dX7_readToken_116 (fun H locs hP hD hS => ?_)
            have ho := Option.some.inj hf
            have hw := congrArg (fun o : Sg => (wX7 E a o)) ho
            exact r_vret X hr hP hS hw dX7_readToken_119
          refine lv_icmp_ne (tgt := 105) hx hb dX7_readToken_98 (by decide) (fun c9 => ?_) (fun c9 => ?_)
          · have hf := (if_neg c9).symm.trans hf
            refine lv_iconst (v := 1) hx hb dX7_readToken_105 (by decide) ?_
            exact J2 1 hf H locs ls hP hD hS (lv_sub hl [1] rfl)
          · have hf := (if_pos c9).symm.trans hf
            refine lv_iconst (v := 3) hx hb dX7_readToken_101 (by decide) ?_
            refine lv_goto (tgt := 106) hx hb dX7_readToken_102 (by decide) ?_
            exact J2 3 hf H locs ls hP hD hS (lv_sub hl [1] rfl)
        · have hf := (if_neg c7).symm.trans hf
          refine lv_aload_n hx hb dX7_readToken_87 rfl (lv_at hl 1 rfl) ?_
          obtain ⟨z10, hz10, hf⟩ := obd hf
          refine cV_allV X (As := []) (rest := []) (c_X7_readNumber l E a (sg_st g1 0 2 (g1 0 3)) hz10) pv_X7_readNumber ml_X7_45 ⟨rfl, rfl⟩ ⟨(Nat.le_of_ble_eq_true rfl), (Nat.le_of_ble_eq_true rfl)⟩ hP hD hS (wX7_g0_0 _ _ _) rfl (wX7_adr _ _ _ _) rfl hl.1 rfl (Nat.le_of_ble_eq_true rfl) dX7_readToken_88 ⟨Nat.le_refl _, Nat.le_refl _⟩ (fun H locs hP hD hS => ?_)
          refine lv_goto (tgt := 119) hx hb dX7_readToken_91 (by decide) ?_
          have ho := Option.some.inj hf
          have hw := congrArg (fun o : Sg => (wX7 E a o)) ho
          exact r_vret X hr hP hS hw dX7_readToken_119
      · have hf := (if_neg c5).symm.trans hf
        refine lv_aload_n hx hb dX7_readToken_73 rfl (lv_at hl 1 rfl) ?_
        obtain ⟨z11, hz11, hf⟩ := obd hf
        refine cV_allV X (As := []) (rest := []) (c_X7_readWord l E a (sg_st g1 0 2 (g1 0 3)) hz11) pv_X7_readWord ml_X7_39 ⟨rfl, rfl⟩ ⟨(Nat.le_of_ble_eq_true rfl), (Nat.le_of_ble_eq_true rfl)⟩ hP hD hS (wX7_g0_0 _ _ _) rfl (wX7_adr _ _ _ _) rfl hl.1 rfl (Nat.le_of_ble_eq_true rfl) dX7_readToken_74 ⟨Nat.le_refl _, Nat.le_refl _⟩ (fun H locs hP hD hS => ?_)
        refine lv_goto (tgt := 119) hx hb dX7_readToken_77 (by decide) ?_
        have ho := Option.some.inj hf
        have hw := congrArg (fun o : Sg => (wX7 E a o)) ho
        exact r_vret X hr hP hS hw dX7_readToken_119
    · have hf := (if_neg c3).symm.trans hf
      refine lv_aload_n hx hb dX7_readToken_58 rfl (lv_at hl 1 rfl) ?_
      refine lv_iconst (v := 0) hx hb dX7_readToken_59 (by decide) ?_
      refine r_put X hP hD hS 0 (wX7_g0_0 _ _ _) rfl inc_X7 tyX7 tyX7_ok nmX7 4 (by decide) fl_X7_25 rfl (ty := .int) rfl rfl rfl (Nat.le_of_ble_eq_true rfl) (wX7_s0_0_4 _ _ _ _) dX7_readToken_60 (fun H locs hP hD hS => ?_)
      refine lv_goto (tgt := 119) hx hb dX7_readToken_63 (by decide) ?_
      have ho := Option.some.inj hf
      have hw := congrArg (fun o : Sg => (wX7 E a o)) ho
      exact r_vret X hr hP hS hw dX7_readToken_119
  have L14 := lc1_ind (o := out) (step := (s_X7_readToken_0 j_X7_readToken_1)) (fun g12 => ∀ (H : Heap) (locs : List Loc) (ls : Array Slot), va_P E.1 vwCl (wX7 E a g12) H → va_D A (wX7 E a g12) → va_S A s.heap H locs → lv_has ls 2 [(0, .ref (a 0))] → W p l e rm_X7_readToken s m ([.ref (a 0)] : List Value).toArray below meth c H locs 0 0 (MQ below (va_Qv (fun _ : Unit => True) (fun _ t => QW E (wX7 E a out) t) A) ([.ref (a 0)] : List Value).toArray s 0 0 A) (F0 m 0 ls [])) (fun g12 k13 ih14 hf H locs ls hP hD hS hl => by
    refine lv_aload_n hx hb dX7_readToken_0 rfl (lv_at hl 0 rfl) ?_
    refine r_get X hP 0 (wX7_g0_0 _ _ _) rfl inc_X7 3 (by decide) fl_X7_22 rfl dX7_readToken_1 ?_
    refine lv_aload_n hx hb dX7_readToken_4 rfl (lv_at hl 0 rfl) ?_
    refine r_get X hP 0 (wX7_g0_0 _ _ _) rfl inc_X7 0 (by decide) fl_X7_9 rfl dX7_readToken_5 ?_
    refine lv_icmp_ge (tgt := 37) hx hb dX7_readToken_8 (by decide) (fun c15 => ?_) (fun c15 => ?_)
    · have hf := (if_pos c15).symm.trans hf
      exact J1 g12 hf H locs ls hP hD hS (lv_sub hl [0] rfl)
    · have hf := (if_neg c15).symm.trans hf
      refine lv_aload_n hx hb dX7_readToken_11 rfl (lv_at hl 0 rfl) ?_
      refine lv_aload_n hx hb dX7_readToken_12 rfl (lv_at hl 0 rfl) ?_
      refine r_get X hP 0 (wX7_g0_0 _ _ _) rfl inc_X7 3 (by decide) fl_X7_22 rfl dX7_readToken_13 ?_
      obtain ⟨z16, hz16, hf⟩ := obd hf
      refine cV_allI X (As := [.int (g12 0 3)]) (rest := []) (c_X7_byteAt l E a g12 (g12 0 3) hz16) pv_X7_byteAt ml_X7_31 ⟨rfl, rfl⟩ ⟨(Nat.le_of_ble_eq_true rfl), (Nat.le_of_ble_eq_true rfl)⟩ hP hD hS (wX7_g0_0 _ _ _) rfl (wX7_adr _ _ _ _) rfl hl.1 rfl (Nat.le_of_ble_eq_true rfl) dX7_readToken_16 ⟨Nat.le_refl _, Nat.le_refl _⟩ (fun H locs hP hD hS => ?_)
      refine lv_bipush (v := 32) hx hb dX7_readToken_19 (by decide) ?_
      refine lv_icmp_ne (tgt := 37) hx hb dX7_readToken_21 (by decide) (fun c17 => ?_) (fun c17 => ?_)
      · have hf := (if_neg c17).symm.trans hf
        exact J1 g12 hf H locs ls hP hD hS (lv_sub hl [0] rfl)
      · have hf := (if_pos c17).symm.trans hf
        refine lv_aload_n hx hb dX7_readToken_24 rfl (lv_at hl 0 rfl) ?_
        refine lv_dup hx hb dX7_readToken_25 rfl ?_
        refine r_get X hP 0 (wX7_g0_0 _ _ _) rfl inc_X7 3 (by decide) fl_X7_22 rfl dX7_readToken_26 ?_
        refine lv_iconst (v := 1) hx hb dX7_readToken_29 (by decide) ?_
        refine lv_iadd hx hb dX7_readToken_30 ?_
        refine r_put X hP hD hS 0 (wX7_g0_0 _ _ _) rfl inc_X7 tyX7 tyX7_ok nmX7 3 (by decide) fl_X7_22 rfl (ty := .int) rfl rfl rfl (Nat.le_of_ble_eq_true rfl) (wX7_s0_0_3 _ _ _ _) dX7_readToken_31 (fun H locs hP hD hS => ?_)
        refine lv_goto (tgt := 0) hx hb dX7_readToken_34 (by decide) ?_
        exact ih14 (sg_st g12 0 3 ((g12 0 3) + 1)) hf H locs ls hP hD hS (lv_sub hl [0] rfl))
  exact L14 1000 σ hf H locs ls hP hD hS (lv_sub hl [0] rfl)
def rm_X7_rewind : Room := { frames := 0, cells := 0, slots := 0, locals := 0 }
theorem pv_X7_rewind : PkV RX7 yX7_rewind cX7_rewind 1 none 0 := ⟨im_X7_rewind, se_X7_rewind, ini_X7, cd_X7_rewind, by decide +kernel⟩
set_option maxHeartbeats 4000000 in
set_option maxRecDepth 100000 in
theorem c_X7_rewind (l : Launch) (E : Ev) (a : Nat → Nat) (σ : Sg) {out : Sg} (hf : f_X7_rewind σ = some out) : MtV l yX7_rewind (wl yX7_rewind cX7_rewind 1 none) rm_X7_rewind E [.ref (a 0)] (wX7 E a σ) (wX7 E a out) := by
  refine mt_of (QQ := (fun A => va_Qv (fun _ : Unit => True) (fun _ t => QW E (wX7 E a out) t) A)) (by decide) (Nat.le_of_ble_eq_true rfl) (fun p e s m below meth c A ls X hr hP hD hS hl => ?_)
  have hx := X.1.1
  have hb := X.1.2.1
  have hl : lv_has ls 1 [(0, .ref (a 0))] := hl
  obtain ⟨H, hHe⟩ : ∃ H : Heap, H = s.heap := ⟨_, rfl⟩
  obtain ⟨locs, hLe⟩ : ∃ locs : List Loc, locs = [] := ⟨_, rfl⟩
  have hP : va_P E.1 vwCl (wX7 E a σ) H := by rw [hHe]; exact hP
  have hS : va_S A s.heap H locs := by rw [hHe, hLe]; exact hS
  rw [← hLe, show W p l e rm_X7_rewind s m ([.ref (a 0)] : List Value).toArray below meth c s.heap locs 0 0 = W p l e rm_X7_rewind s m ([.ref (a 0)] : List Value).toArray below meth c H locs 0 0 from by rw [hHe]]
  refine lv_aload_n hx hb dX7_rewind_0 rfl (lv_at hl 0 rfl) ?_
  refine lv_iconst (v := 0) hx hb dX7_rewind_1 (by decide) ?_
  refine r_put X hP hD hS 0 (wX7_g0_0 _ _ _) rfl inc_X7 tyX7 tyX7_ok nmX7 2 (by decide) fl_X7_19 rfl (ty := .int) rfl rfl rfl (Nat.le_of_ble_eq_true rfl) (wX7_s0_0_2 _ _ _ _) dX7_rewind_2 (fun H locs hP hD hS => ?_)
  refine lv_aload_n hx hb dX7_rewind_5 rfl (lv_at hl 0 rfl) ?_
  refine lv_iconst (v := 0) hx hb dX7_rewind_6 (by decide) ?_
  refine r_put X hP hD hS 0 (wX7_g0_0 _ _ _) rfl inc_X7 tyX7 tyX7_ok nmX7 3 (by decide) fl_X7_22 rfl (ty := .int) rfl rfl rfl (Nat.le_of_ble_eq_true rfl) (wX7_s0_0_3 _ _ _ _) dX7_rewind_7 (fun H locs hP hD hS => ?_)
  refine lv_aload_n hx hb dX7_rewind_10 rfl (lv_at hl 0 rfl) ?_
  refine lv_iconst (v := 0) hx hb dX7_rewind_11 (by decide) ?_
  refine r_put X hP hD hS 0 (wX7_g0_0 _ _ _) rfl inc_X7 tyX7 tyX7_ok nmX7 4 (by decide) fl_X7_25 rfl (ty := .int) rfl rfl rfl (Nat.le_of_ble_eq_true rfl) (wX7_s0_0_4 _ _ _ _) dX7_rewind_12 (fun H locs hP hD hS => ?_)
  refine lv_aload_n hx hb dX7_rewind_15 rfl (lv_at hl 0 rfl) ?_
  refine lv_iconst (v := 0) hx hb dX7_rewind_16 (by decide) ?_
  refine r_put X hP hD hS 0 (wX7_g0_0 _ _ _) rfl inc_X7 tyX7 tyX7_ok nmX7 5 (by decide) fl_X7_28 rfl (ty := .int) rfl rfl rfl (Nat.le_of_ble_eq_true rfl) (wX7_s0_0_5 _ _ _ _) dX7_rewind_17 (fun H locs hP hD hS => ?_)
  have ho := Option.some.inj hf
  have hw := congrArg (fun o : Sg => (wX7 E a o)) ho
  exact r_vret X hr hP hS hw dX7_rewind_20
def rm_X6_readAll : Room := { frames := 7, cells := 0, slots := 0, locals := 148 }
theorem pv_X6_readAll : PkV RX6 yX6_readAll cX6_readAll 2 (some .boolean) 0 := ⟨im_X6_readAll, se_X6_readAll, ini_X6, cd_X6_readAll, by decide +kernel⟩
set_option maxHeartbeats 4000000 in
set_option maxRecDepth 100000 in
theorem c_X6_readAll (l : Launch) (E : Ev) (a : Nat → Nat) (σ : Sg) {out : Int32 × Sg} (hf : f_X6_readAll σ = some out) : MtI l yX6_readAll (wl yX6_readAll cX6_readAll 2 (some .boolean)) rm_X6_readAll E [.ref (a 0)] (wX6 E a σ) out.1 (wX6 E a out.2) := by
  refine mt_of (QQ := (fun A => va_Qi (fun x (_ : Unit) => x = out.1) (fun _ t => QW E (wX6 E a out.2) t) A)) (by decide) (Nat.le_of_ble_eq_true rfl) (fun p e s m below meth c A ls X hr hP hD hS hl => ?_)
  have hx := X.1.1
  have hb := X.1.2.1
  have hl : lv_has ls 2 [(0, .ref (a 0))] := hl
  obtain ⟨H, hHe⟩ : ∃ H : Heap, H = s.heap := ⟨_, rfl⟩
  obtain ⟨locs, hLe⟩ : ∃ locs : List Loc, locs = [] := ⟨_, rfl⟩
  have hP : va_P E.1 vwCl (wX6 E a σ) H := by rw [hHe]; exact hP
  have hS : va_S A s.heap H locs := by rw [hHe, hLe]; exact hS
  rw [← hLe, show W p l e rm_X6_readAll s m ([.ref (a 0)] : List Value).toArray below meth c s.heap locs 0 0 = W p l e rm_X6_readAll s m ([.ref (a 0)] : List Value).toArray below meth c H locs 0 0 from by rw [hHe]]
  refine lv_aload_n hx hb dX6_readAll_0 rfl (lv_at hl 0 rfl) ?_
  refine r_get X hP 0 (wX6_g0_0 _ _ _) rfl inc_X6 1 (by decide) fl_X6_21 rfl dX6_readAll_1 ?_
  obtain ⟨z1, hz1, hf⟩ := obd hf
  refine cV_putV X (As := []) (rest := []) (c_X1_becomeAsAtFirst l E (sg_off a 3) (sg_off σ 3) hz1) pv_X1_becomeAsAtFirst ml_X6_45 ⟨rfl, rfl⟩ ⟨(Nat.le_of_ble_eq_true rfl), (Nat.le_of_ble_eq_true rfl)⟩ hP hD hS (wX6_b_0_3_X1 _ _ _) rfl (wX1_g0_0 _ _ _) rfl (wX6_p_0_3_X1 _ _ _ _) rfl hl.1 rfl (Nat.le_of_ble_eq_true rfl) dX6_readAll_4 ⟨Nat.le_refl _, Nat.le_refl _⟩ (fun H locs hP hD hS => ?_)
  refine lv_aload_n hx hb dX6_readAll_7 rfl (lv_at hl 0 rfl) ?_
  refine lv_iconst (v := 0) hx hb dX6_readAll_8 (by decide) ?_
  refine r_put X hP hD hS 0 (wX6_g0_0 _ _ _) rfl inc_X6 tyX6 tyX6_ok nmX6 2 (by decide) fl_X6_25 rfl (ty := .int) rfl rfl rfl (Nat.le_of_ble_eq_true rfl) (wX6_s0_0_2 _ _ _ _) dX6_readAll_9 (fun H locs hP hD hS => ?_)
  refine lv_aload_n hx hb dX6_readAll_12 rfl (lv_at hl 0 rfl) ?_
  refine lv_iconst (v := 0) hx hb dX6_readAll_13 (by decide) ?_
  refine r_put X hP hD hS 0 (wX6_g0_0 _ _ _) rfl inc_X6 tyX6 tyX6_ok nmX6 3 (by decide) fl_X6_29 rfl (ty := .int) rfl rfl rfl (Nat.le_of_ble_eq_true rfl) (wX6_s0_0_3 _ _ _ _) dX6_readAll_14 (fun H locs hP hD hS => ?_)
  refine lv_aload_n hx hb dX6_readAll_17 rfl (lv_at hl 0 rfl) ?_
  refine lv_iconst (v := 0) hx hb dX6_readAll_18 (by decide) ?_
  refine r_put X hP hD hS 0 (wX6_g0_0 _ _ _) rfl inc_X6 tyX6 tyX6_ok nmX6 7 (by decide) fl_X6_41 rfl (ty := .boolean) rfl rfl rfl (Nat.le_of_ble_eq_true rfl) (wX6_s0_0_7 _ _ _ _) dX6_readAll_19 (fun H locs hP hD hS => ?_)
  refine lv_aload_n hx hb dX6_readAll_22 rfl (lv_at hl 0 rfl) ?_
  refine r_get X hP 0 (wX6_g0_0 _ _ _) rfl inc_X6 0 (by decide) fl_X6_12 rfl dX6_readAll_23 ?_
  obtain ⟨z2, hz2, hf⟩ := obd hf
  refine cV_putV X (As := []) (rest := []) (c_X7_rewind l E (sg_off a 1) (sg_off (sg_st (sg_st (sg_st (sg_sp σ 3 5 z1) 0 2 0) 0 3 0) 0 7 0) 1) hz2) pv_X7_rewind ml_X6_48 ⟨rfl, rfl⟩ ⟨(Nat.le_of_ble_eq_true rfl), (Nat.le_of_ble_eq_true rfl)⟩ hP hD hS (wX6_b_0_1_X7 _ _ _) rfl (wX7_g0_0 _ _ _) rfl (wX6_p_0_1_X7 _ _ _ _) rfl hl.1 rfl (Nat.le_of_ble_eq_true rfl) dX6_readAll_26 ⟨Nat.le_refl _, Nat.le_refl _⟩ (fun H locs hP hD hS => ?_)
  refine lv_iconst (v := 0) hx hb dX6_readAll_29 (by decide) ?_
  refine lv_istore_n (lv' := [(1, .int 0), (0, .ref (a 0))]) hx hb dX6_readAll_30 rfl hl (by decide) rfl (fun ls hl => ?_)
  have J1 : ∀ (g3 : Sg), j_X6_readAll_1 g3 = some out → ∀ (H : Heap) (locs : List Loc) (ls : Array Slot), va_P E.1 vwCl (wX6 E a g3) H → va_D A (wX6 E a g3) → va_S A s.heap H locs → lv_has ls 2 [(0, .ref (a 0))] → W p l e rm_X6_readAll s m ([.ref (a 0)] : List Value).toArray below meth c H locs 0 0 (MQ below (va_Qi (fun x (_ : Unit) => x = out.1) (fun _ t => QW E (wX6 E a out.2) t) A) ([.ref (a 0)] : List Value).toArray s 0 0 A) (F0 m 55 ls []) := by
    intro g3 hf H locs ls hP hD hS hl
    refine lv_aload_n hx hb dX6_readAll_55 rfl (lv_at hl 0 rfl) ?_
    refine r_get X hP 0 (wX6_g0_0 _ _ _) rfl inc_X6 3 (by decide) fl_X6_29 rfl dX6_readAll_56 ?_
    refine lv_if_ne (tgt := 66) hx hb dX6_readAll_59 (by decide) (fun c4 => ?_) (fun c4 => ?_)
    · have hf := (if_neg c4).symm.trans hf
      refine lv_iconst (v := 0) hx hb dX6_readAll_66 (by decide) ?_
      have ho := Option.some.inj hf
      have hv : 0 = out.1 := by rw [← ho]
      have hw := congrArg (fun o : Int32 × Sg => (wX6 E a o.2)) ho
      exact r_zret X hr hP hS rfl hv hw dX6_readAll_67
    · have hf := (if_pos c4).symm.trans hf
      refine lv_iconst (v := 1) hx hb dX6_readAll_62 (by decide) ?_
      refine lv_goto (tgt := 67) hx hb dX6_readAll_63 (by decide) ?_
      have ho := Option.some.inj hf
      have hv : 1 = out.1 := by rw [← ho]
      have hw := congrArg (fun o : Int32 × Sg => (wX6 E a o.2)) ho
      exact r_zret X hr hP hS rfl hv hw dX6_readAll_67
  have L8 := lc2_ind (o := out) (step := (s_X6_readAll_31 j_X6_readAll_1)) (fun x5 g6 => ∀ (H : Heap) (locs : List Loc) (ls : Array Slot), va_P E.1 vwCl (wX6 E a g6) H → va_D A (wX6 E a g6) → va_S A s.heap H locs → lv_has ls 2 [(0, .ref (a 0)), (1, .int x5)] → W p l e rm_X6_readAll s m ([.ref (a 0)] : List Value).toArray below meth c H locs 0 0 (MQ below (va_Qi (fun x (_ : Unit) => x = out.1) (fun _ t => QW E (wX6 E a out.2) t) A) ([.ref (a 0)] : List Value).toArray s 0 0 A) (F0 m 31 ls [])) (fun x5 g6 k7 ih8 hf H locs ls hP hD hS hl => by
    refine lv_iload_n hx hb dX6_readAll_31 rfl (lv_at hl 1 rfl) ?_
    refine lv_sipush (v := 200) hx hb dX6_readAll_32 (by decide) ?_
    refine lv_icmp_gt (tgt := 83) hx hb dX6_readAll_35 (by decide) (fun c9 => ?_) (fun c9 => ?_)
    · have hf := (if_pos c9).symm.trans hf
      refine lv_iconst (v := 0) hx hb dX6_readAll_83 (by decide) ?_
      have ho := Option.some.inj hf
      have hv : 0 = out.1 := by rw [← ho]
      have hw := congrArg (fun o : Int32 × Sg => (wX6 E a o.2)) ho
      exact r_zret X hr hP hS rfl hv hw dX6_readAll_84
    · have hf := (if_neg c9).symm.trans hf
      refine lv_aload_n hx hb dX6_readAll_38 rfl (lv_at hl 0 rfl) ?_
      refine r_get X hP 0 (wX6_g0_0 _ _ _) rfl inc_X6 0 (by decide) fl_X6_12 rfl dX6_readAll_39 ?_
      obtain ⟨z10, hz10, hf⟩ := obd hf
      refine cV_putV X (As := []) (rest := []) (c_X7_readToken l E (sg_off a 1) (sg_off g6 1) hz10) pv_X7_readToken ml_X6_51 ⟨rfl, rfl⟩ ⟨(Nat.le_of_ble_eq_true rfl), (Nat.le_of_ble_eq_true rfl)⟩ hP hD hS (wX6_b_0_1_X7 _ _ _) rfl (wX7_g0_0 _ _ _) rfl (wX6_p_0_1_X7 _ _ _ _) rfl hl.1 rfl (Nat.le_of_ble_eq_true rfl) dX6_readAll_42 ⟨Nat.le_refl _, Nat.le_refl _⟩ (fun H locs hP hD hS => ?_)
      refine lv_aload_n hx hb dX6_readAll_45 rfl (lv_at hl 0 rfl) ?_
      refine r_get X hP 0 (wX6_g0_0 _ _ _) rfl inc_X6 0 (by decide) fl_X6_12 rfl dX6_readAll_46 ?_
      refine r_get X hP 1 (wX6_g0_1 _ _ _) rfl inc_X7 4 (by decide) fl_X6_54 rfl dX6_readAll_49 ?_
      refine lv_if_ne (tgt := 68) hx hb dX6_readAll_52 (by decide) (fun c11 => ?_) (fun c11 => ?_)
      · have hf := (if_neg c11).symm.trans hf
        refine lv_aload_n hx hb dX6_readAll_68 rfl (lv_at hl 0 rfl) ?_
        obtain ⟨z12, hz12, hf⟩ := obd hf
        refine cV_allI X (As := []) (rest := []) (c_X6_takesToken l E a (sg_sp g6 1 2 z10) hz12) pv_X6_takesToken ml_X6_57 ⟨rfl, rfl⟩ ⟨(Nat.le_of_ble_eq_true rfl), (Nat.le_of_ble_eq_true rfl)⟩ hP hD hS (wX6_g0_0 _ _ _) rfl (wX6_adr _ _ _ _) rfl hl.1 rfl (Nat.le_of_ble_eq_true rfl) dX6_readAll_69 ⟨Nat.le_refl _, Nat.le_refl _⟩ (fun H locs hP hD hS => ?_)
        refine lv_if_ne (tgt := 77) hx hb dX6_readAll_72 (by decide) (fun c13 => ?_) (fun c13 => ?_)
        · have hf := (if_neg c13).symm.trans hf
          refine lv_iinc (v := (x5 + 1)) (lv' := [(1, .int (x5 + 1)), (0, .ref (a 0))]) hx hb dX6_readAll_77 hl (k := 1) rfl rfl (by decide) rfl (fun ls hl => ?_)
          refine lv_goto (tgt := 31) hx hb dX6_readAll_80 (by decide) ?_
          exact ih8 (x5 + 1) z12.2 hf H locs ls hP hD hS (lv_sub hl [1, 0] rfl)
        · have hf := (if_pos c13).symm.trans hf
          refine lv_iconst (v := 0) hx hb dX6_readAll_75 (by decide) ?_
          have ho := Option.some.inj hf
          have hv : 0 = out.1 := by rw [← ho]
          have hw := congrArg (fun o : Int32 × Sg => (wX6 E a o.2)) ho
          exact r_zret X hr hP hS rfl hv hw dX6_readAll_76
      · have hf := (if_pos c11).symm.trans hf
        exact J1 (sg_sp g6 1 2 z10) hf H locs ls hP hD hS (lv_sub hl [0] rfl))
  exact L8 1000 0 (sg_sp (sg_st (sg_st (sg_st (sg_sp σ 3 5 z1) 0 2 0) 0 3 0) 0 7 0) 1 2 z2) hf H locs ls hP hD hS (lv_sub hl [1, 0] rfl)
def rm_X7_append : Room := { frames := 0, cells := 0, slots := 0, locals := 0 }
theorem pv_X7_append : PkV RX7 yX7_append cX7_append 2 none 1 := ⟨im_X7_append, se_X7_append, ini_X7, cd_X7_append, by decide +kernel⟩
set_option maxHeartbeats 4000000 in
set_option maxRecDepth 100000 in
theorem c_X7_append (l : Launch) (E : Ev) (a : Nat → Nat) (σ : Sg) (p1 : Int32) {out : Sg} (hf : f_X7_append σ p1 = some out) : MtV l yX7_append (wl yX7_append cX7_append 2 none) rm_X7_append E [.ref (a 0), .int p1] (wX7 E a σ) (wX7 E a out) := by
  refine mt_of (QQ := (fun A => va_Qv (fun _ : Unit => True) (fun _ t => QW E (wX7 E a out) t) A)) (by decide) (Nat.le_of_ble_eq_true rfl) (fun p e s m below meth c A ls X hr hP hD hS hl => ?_)
  have hx := X.1.1
  have hb := X.1.2.1
  have hl : lv_has ls 2 [(0, .ref (a 0)), (1, .int p1)] := hl
  obtain ⟨H, hHe⟩ : ∃ H : Heap, H = s.heap := ⟨_, rfl⟩
  obtain ⟨locs, hLe⟩ : ∃ locs : List Loc, locs = [] := ⟨_, rfl⟩
  have hP : va_P E.1 vwCl (wX7 E a σ) H := by rw [hHe]; exact hP
  have hS : va_S A s.heap H locs := by rw [hHe, hLe]; exact hS
  rw [← hLe, show W p l e rm_X7_append s m ([.ref (a 0), .int p1] : List Value).toArray below meth c s.heap locs 0 0 = W p l e rm_X7_append s m ([.ref (a 0), .int p1] : List Value).toArray below meth c H locs 0 0 from by rw [hHe]]
  refine lv_aload_n hx hb dX7_append_0 rfl (lv_at hl 0 rfl) ?_
  refine r_get X hP 0 (wX7_g0_0 _ _ _) rfl inc_X7 0 (by decide) fl_X7_9 rfl dX7_append_1 ?_
  refine lv_sipush (v := 200) hx hb dX7_append_4 (by decide) ?_
  refine lv_icmp_ge (tgt := 30) hx hb dX7_append_7 (by decide) (fun c1 => ?_) (fun c1 => ?_)
  · have hf := (if_pos c1).symm.trans hf
    have ho := Option.some.inj hf
    have hw := congrArg (fun o : Sg => (wX7 E a o)) ho
    exact r_vret X hr hP hS hw dX7_append_30
  · have hf := (if_neg c1).symm.trans hf
    refine lv_aload_n hx hb dX7_append_10 rfl (lv_at hl 0 rfl) ?_
    refine r_get X hP 0 (wX7_g0_0 _ _ _) rfl inc_X7 1 (by decide) fl_X7_15 rfl dX7_append_11 ?_
    refine lv_aload_n hx hb dX7_append_14 rfl (lv_at hl 0 rfl) ?_
    refine r_get X hP 0 (wX7_g0_0 _ _ _) rfl inc_X7 0 (by decide) fl_X7_9 rfl dX7_append_15 ?_
    refine lv_iload_n hx hb dX7_append_18 rfl (lv_at hl 1 rfl) ?_
    obtain ⟨h2, hf⟩ := chk_in hf
    refine r_iast X hP hD hS 1 (wX7_g0_1 _ _ _) h2 (wX7_t0_1 _ _ _ _ _) dX7_append_19 (fun H locs hP hD hS => ?_)
    refine lv_aload_n hx hb dX7_append_20 rfl (lv_at hl 0 rfl) ?_
    refine lv_dup hx hb dX7_append_21 rfl ?_
    refine r_get X hP 0 (wX7_g0_0 _ _ _) rfl inc_X7 0 (by decide) fl_X7_9 rfl dX7_append_22 ?_
    refine lv_iconst (v := 1) hx hb dX7_append_25 (by decide) ?_
    refine lv_iadd hx hb dX7_append_26 ?_
    refine r_put X hP hD hS 0 (wX7_g0_0 _ _ _) rfl inc_X7 tyX7 tyX7_ok nmX7 0 (by decide) fl_X7_9 rfl (ty := .int) rfl rfl rfl (Nat.le_of_ble_eq_true rfl) (wX7_s0_0_0 _ _ _ _) dX7_append_27 (fun H locs hP hD hS => ?_)
    have ho := Option.some.inj hf
    have hw := congrArg (fun o : Sg => (wX7 E a o)) ho
    exact r_vret X hr hP hS hw dX7_append_30
