def rm_X5_layFold : Room := { frames := 3, cells := 0, slots := 0, locals := 75 }
theorem pv_X5_layFold : PkV RX5 yX5_layFold cX5_layFold 4 (some .boolean) 2 := ⟨im_X5_layFold, se_X5_layFold, ini_X5, cd_X5_layFold, by decide +kernel⟩
set_option maxHeartbeats 4000000 in
set_option maxRecDepth 100000 in
theorem c_X5_layFold (l : Launch) (E : Ev) (a : Nat → Nat) (σ : Sg) (p1 : Int32) (p2 : Int32) {out : Int32 × Sg} (hf : f_X5_layFold σ p1 p2 = some out) : MtI l yX5_layFold (wl yX5_layFold cX5_layFold 4 (some .boolean)) rm_X5_layFold E [.ref (a 0), .int p1, .int p2] (wX5 E a σ) out.1 (wX5 E a out.2) := by
  refine mt_of (QQ := (fun A => va_Qi (fun x (_ : Unit) => x = out.1) (fun _ t => QW E (wX5 E a out.2) t) A)) (by decide) (Nat.le_of_ble_eq_true rfl) (fun p e s m below meth c A ls X hr hP hD hS hl => ?_)
  have hx := X.1.1
  have hb := X.1.2.1
  have hl : lv_has ls 4 [(0, .ref (a 0)), (1, .int p1), (2, .int p2)] := hl
  obtain ⟨H, hHe⟩ : ∃ H : Heap, H = s.heap := ⟨_, rfl⟩
  obtain ⟨locs, hLe⟩ : ∃ locs : List Loc, locs = [] := ⟨_, rfl⟩
  have hP : va_P E.1 vwCl (wX5 E a σ) H := by rw [hHe]; exact hP
  have hS : va_S A s.heap H locs := by rw [hHe, hLe]; exact hS
  rw [← hLe, show W p l e rm_X5_layFold s m ([.ref (a 0), .int p1, .int p2] : List Value).toArray below meth c s.heap locs 0 0 = W p l e rm_X5_layFold s m ([.ref (a 0), .int p1, .int p2] : List Value).toArray below meth c H locs 0 0 from by rw [hHe]]
  refine lv_iload_n hx hb dX5_layFold_0 rfl (lv_at hl 1 rfl) ?_
  refine lv_if_lt (tgt := 19) hx hb dX5_layFold_1 (by decide) (fun c1 => ?_) (fun c1 => ?_)
  · have hf := (if_pos c1).symm.trans hf
    refine lv_iconst (v := 0) hx hb dX5_layFold_19 (by decide) ?_
    have ho := Option.some.inj hf
    have hv : 0 = out.1 := by rw [← ho]
    have hw := congrArg (fun o : Int32 × Sg => (wX5 E a o.2)) ho
    exact r_zret X hr hP hS rfl hv hw dX5_layFold_20
  · have hf := (if_neg c1).symm.trans hf
    refine lv_iload_n hx hb dX5_layFold_4 rfl (lv_at hl 1 rfl) ?_
    refine lv_iconst (v := 2) hx hb dX5_layFold_5 (by decide) ?_
    refine lv_icmp_ge (tgt := 19) hx hb dX5_layFold_6 (by decide) (fun c2 => ?_) (fun c2 => ?_)
    · have hf := (if_pos c2).symm.trans hf
      refine lv_iconst (v := 0) hx hb dX5_layFold_19 (by decide) ?_
      have ho := Option.some.inj hf
      have hv : 0 = out.1 := by rw [← ho]
      have hw := congrArg (fun o : Int32 × Sg => (wX5 E a o.2)) ho
      exact r_zret X hr hP hS rfl hv hw dX5_layFold_20
    · have hf := (if_neg c2).symm.trans hf
      refine lv_iload_n hx hb dX5_layFold_9 rfl (lv_at hl 2 rfl) ?_
      refine lv_if_lt (tgt := 19) hx hb dX5_layFold_10 (by decide) (fun c3 => ?_) (fun c3 => ?_)
      · have hf := (if_pos c3).symm.trans hf
        refine lv_iconst (v := 0) hx hb dX5_layFold_19 (by decide) ?_
        have ho := Option.some.inj hf
        have hv : 0 = out.1 := by rw [← ho]
        have hw := congrArg (fun o : Int32 × Sg => (wX5 E a o.2)) ho
        exact r_zret X hr hP hS rfl hv hw dX5_layFold_20
      · have hf := (if_neg c3).symm.trans hf
        refine lv_iload_n hx hb dX5_layFold_13 rfl (lv_at hl 2 rfl) ?_
        refine lv_bipush (v := 12) hx hb dX5_layFold_14 (by decide) ?_
        refine lv_icmp_lt (tgt := 21) hx hb dX5_layFold_16 (by decide) (fun c4 => ?_) (fun c4 => ?_)
        · have hf := (if_pos c4).symm.trans hf
          refine va_gets hx hb X.2.2.1.1 hS X.1.2.2.2.1 (X.1.2.2.2.2 _ fl_X5_72) (fun _ h9 => h9) dX5_layFold_21 ?_
          refine lv_iload_n hx hb dX5_layFold_24 rfl (lv_at hl 2 rfl) ?_
          obtain ⟨h5, hf⟩ := chk_in hf
          refine va_ti hx hb X.2.2.1.2.1 hS h5 rfl dX5_layFold_25 ?_
          refine lv_istore_n (lv' := [(3, .int (am_choice (p2 : Int32).toNatClampNeg)), (0, .ref (a 0)), (1, .int p1), (2, .int p2)]) hx hb dX5_layFold_26 rfl hl (by decide) rfl (fun ls hl => ?_)
          refine lv_aload_n hx hb dX5_layFold_27 rfl (lv_at hl 1 rfl) ?_
          refine r_get X hP 0 (wX5_g0_0 _ _ _) rfl inc_X5 3 (by decide) fl_X5_24 rfl dX5_layFold_28 ?_
          refine lv_iload_n hx hb dX5_layFold_31 rfl (lv_at hl 2 rfl) ?_
          have J1 : ∀ (x6 : Int32), j_X5_layFold_1 σ p1 p2 x6 = some out → ∀ (H : Heap) (locs : List Loc) (ls : Array Slot), va_P E.1 vwCl (wX5 E a σ) H → va_D A (wX5 E a σ) → va_S A s.heap H locs → lv_has ls 4 [(0, .ref (a 0)), (1, .int p1), (3, .int (am_choice (p2 : Int32).toNatClampNeg))] → W p l e rm_X5_layFold s m ([.ref (a 0), .int p1, .int p2] : List Value).toArray below meth c H locs 0 0 (MQ below (va_Qi (fun x (_ : Unit) => x = out.1) (fun _ t => QW E (wX5 E a out.2) t) A) ([.ref (a 0), .int p1, .int p2] : List Value).toArray s 0 0 A) (F0 m 37 ls [.int x6]) := by
            intro x6 hf H locs ls hP hD hS hl
            refine lv_if_ne (tgt := 42) hx hb dX5_layFold_37 (by decide) (fun c7 => ?_) (fun c7 => ?_)
            · have hf := (if_neg c7).symm.trans hf
              refine lv_aload_n hx hb dX5_layFold_42 rfl (lv_at hl 0 rfl) ?_
              refine r_get X hP 0 (wX5_g0_0 _ _ _) rfl inc_X5 2 (by decide) fl_X5_19 rfl dX5_layFold_43 ?_
              refine lv_iload_n hx hb dX5_layFold_46 rfl (lv_at hl 1 rfl) ?_
              refine lv_iload_n hx hb dX5_layFold_47 rfl (lv_at hl 2 rfl) ?_
              obtain ⟨h8, hf⟩ := chk_in hf
              refine r_iast X hP hD hS 2 (wX5_g0_2 _ _ _) h8 (wX5_t0_2 _ _ _ _ _) dX5_layFold_48 (fun H locs hP hD hS => ?_)
              refine lv_aload_n hx hb dX5_layFold_49 rfl (lv_at hl 0 rfl) ?_
              refine r_get X hP 0 (wX5_g0_0 _ _ _) rfl inc_X5 3 (by decide) fl_X5_24 rfl dX5_layFold_50 ?_
              refine lv_iload_n hx hb dX5_layFold_53 rfl (lv_at hl 1 rfl) ?_
              refine lv_iconst (v := 1) hx hb dX5_layFold_54 (by decide) ?_
              refine lv_iadd hx hb dX5_layFold_55 ?_
              have J2 : ∀ (g9 : Sg), j_X5_layFold_2 p1 p2 g9 = some out → ∀ (H : Heap) (locs : List Loc) (ls : Array Slot), va_P E.1 vwCl (wX5 E a g9) H → va_D A (wX5 E a g9) → va_S A s.heap H locs → lv_has ls 4 [(0, .ref (a 0)), (1, .int p1), (3, .int (am_choice (p2 : Int32).toNatClampNeg))] → W p l e rm_X5_layFold s m ([.ref (a 0), .int p1, .int p2] : List Value).toArray below meth c H locs 0 0 (MQ below (va_Qi (fun x (_ : Unit) => x = out.1) (fun _ t => QW E (wX5 E a out.2) t) A) ([.ref (a 0), .int p1, .int p2] : List Value).toArray s 0 0 A) (F0 m 66 ls []) := by
                intro g9 hf H locs ls hP hD hS hl
                refine lv_aload_n hx hb dX5_layFold_66 rfl (lv_at hl 0 rfl) ?_
                refine r_get X hP 0 (wX5_g0_0 _ _ _) rfl inc_X5 3 (by decide) fl_X5_24 rfl dX5_layFold_67 ?_
                refine lv_iload_n hx hb dX5_layFold_70 rfl (lv_at hl 1 rfl) ?_
                refine lv_iconst (v := 1) hx hb dX5_layFold_71 (by decide) ?_
                refine lv_iadd hx hb dX5_layFold_72 ?_
                by_cases c10 : (p1 + 1) = 0
                · have hf := (if_pos c10).symm.trans hf
                  refine r_aldq X hP 3 3 (wX5_g0_3 _ _ _) rfl c10 (vin_d rfl) (v := a 4) rfl dX5_layFold_73 ?_
                  refine lv_iload_n hx hb dX5_layFold_74 rfl (lv_at hl 2 rfl) ?_
                  obtain ⟨z11, hz11, hf⟩ := obd hf
                  refine cV_putV X (As := [.int (am_choice (p2 : Int32).toNatClampNeg)]) (rest := []) (c_X3_bend l E (sg_off a 4) (sg_off g9 4) (am_choice (p2 : Int32).toNatClampNeg) hz11) pv_X3_bend ml_X5_79 ⟨rfl, rfl⟩ ⟨(Nat.le_of_ble_eq_true rfl), (Nat.le_of_ble_eq_true rfl)⟩ hP hD hS (wX5_b_0_4_X3 _ _ _) rfl (wX3_g0_0 _ _ _) rfl (wX5_p_0_4_X3 _ _ _ _) rfl hl.1 rfl (Nat.le_of_ble_eq_true rfl) dX5_layFold_75 ⟨Nat.le_refl _, Nat.le_refl _⟩ (fun H locs hP hD hS => ?_)
                  refine lv_iconst (v := 1) hx hb dX5_layFold_78 (by decide) ?_
                  have ho := Option.some.inj hf
                  have hv : 1 = out.1 := by rw [← ho]
                  have hw := congrArg (fun o : Int32 × Sg => (wX5 E a o.2)) ho
                  exact r_zret X hr hP hS rfl hv hw dX5_layFold_79
                · have hf := (if_neg c10).symm.trans hf
                  by_cases c12 : (p1 + 1) = 1
                  · have hf := (if_pos c12).symm.trans hf
                    refine r_aldq X hP 3 3 (wX5_g0_3 _ _ _) rfl c12 (vin_d rfl) (v := a 10) rfl dX5_layFold_73 ?_
                    refine lv_iload_n hx hb dX5_layFold_74 rfl (lv_at hl 2 rfl) ?_
                    obtain ⟨z13, hz13, hf⟩ := obd hf
                    refine cV_putV X (As := [.int (am_choice (p2 : Int32).toNatClampNeg)]) (rest := []) (c_X3_bend l E (sg_off a 10) (sg_off g9 10) (am_choice (p2 : Int32).toNatClampNeg) hz13) pv_X3_bend ml_X5_79 ⟨rfl, rfl⟩ ⟨(Nat.le_of_ble_eq_true rfl), (Nat.le_of_ble_eq_true rfl)⟩ hP hD hS (wX5_b_0_10_X3 _ _ _) rfl (wX3_g0_0 _ _ _) rfl (wX5_p_0_10_X3 _ _ _ _) rfl hl.1 rfl (Nat.le_of_ble_eq_true rfl) dX5_layFold_75 ⟨Nat.le_refl _, Nat.le_refl _⟩ (fun H locs hP hD hS => ?_)
                    refine lv_iconst (v := 1) hx hb dX5_layFold_78 (by decide) ?_
                    have ho := Option.some.inj hf
                    have hv : 1 = out.1 := by rw [← ho]
                    have hw := congrArg (fun o : Int32 × Sg => (wX5 E a o.2)) ho
                    exact r_zret X hr hP hS rfl hv hw dX5_layFold_79
                  · have hf := (if_neg c12).symm.trans hf
                    by_cases c14 : (p1 + 1) = 2
                    · have hf := (if_pos c14).symm.trans hf
                      refine r_aldq X hP 3 3 (wX5_g0_3 _ _ _) rfl c14 (vin_d rfl) (v := a 16) rfl dX5_layFold_73 ?_
                      refine lv_iload_n hx hb dX5_layFold_74 rfl (lv_at hl 2 rfl) ?_
                      obtain ⟨z15, hz15, hf⟩ := obd hf
                      refine cV_putV X (As := [.int (am_choice (p2 : Int32).toNatClampNeg)]) (rest := []) (c_X3_bend l E (sg_off a 16) (sg_off g9 16) (am_choice (p2 : Int32).toNatClampNeg) hz15) pv_X3_bend ml_X5_79 ⟨rfl, rfl⟩ ⟨(Nat.le_of_ble_eq_true rfl), (Nat.le_of_ble_eq_true rfl)⟩ hP hD hS (wX5_b_0_16_X3 _ _ _) rfl (wX3_g0_0 _ _ _) rfl (wX5_p_0_16_X3 _ _ _ _) rfl hl.1 rfl (Nat.le_of_ble_eq_true rfl) dX5_layFold_75 ⟨Nat.le_refl _, Nat.le_refl _⟩ (fun H locs hP hD hS => ?_)
                      refine lv_iconst (v := 1) hx hb dX5_layFold_78 (by decide) ?_
                      have ho := Option.some.inj hf
                      have hv : 1 = out.1 := by rw [← ho]
                      have hw := congrArg (fun o : Int32 × Sg => (wX5 E a o.2)) ho
                      exact r_zret X hr hP hS rfl hv hw dX5_layFold_79
                    · have hf := (if_neg c14).symm.trans hf
                      exact ob_none hf
              by_cases c16 : (p1 + 1) = 0
              · have hf := (if_pos c16).symm.trans hf
                refine r_aldq X hP 3 3 (wX5_g0_3 _ _ _) rfl c16 (vin_d rfl) (v := a 4) rfl dX5_layFold_56 ?_
                refine lv_aload_n hx hb dX5_layFold_57 rfl (lv_at hl 0 rfl) ?_
                refine r_get X hP 0 (wX5_g0_0 _ _ _) rfl inc_X5 3 (by decide) fl_X5_24 rfl dX5_layFold_58 ?_
                refine lv_iload_n hx hb dX5_layFold_61 rfl (lv_at hl 1 rfl) ?_
                by_cases c17 : p1 = 0
                · have hf := (if_pos c17).symm.trans hf
                  refine r_aldq X hP 3 3 (wX5_g0_3 _ _ _) rfl c17 (vin_d rfl) (v := a 4) rfl dX5_layFold_62 ?_
                  exact ob_none hf
                · have hf := (if_neg c17).symm.trans hf
                  by_cases c19 : p1 = 1
                  · have hf := (if_pos c19).symm.trans hf
                    refine r_aldq X hP 3 3 (wX5_g0_3 _ _ _) rfl c19 (vin_d rfl) (v := a 10) rfl dX5_layFold_62 ?_
                    obtain ⟨z20, hz20, hf⟩ := obd hf
                    refine cV_putV X (As := [.ref (a 10)]) (rest := []) (c_X3_copyFrom l E (sg_off a 4) (sg_off (sg_st σ 2 (p1 : Int32).toNatClampNeg (am_choice (p2 : Int32).toNatClampNeg)) 4) (sg_off a 10) (sg_off (sg_st σ 2 (p1 : Int32).toNatClampNeg (am_choice (p2 : Int32).toNatClampNeg)) 10) hz20) pv_X3_copyFrom ml_X5_33 ⟨rfl, rfl⟩ ⟨(Nat.le_of_ble_eq_true rfl), (Nat.le_of_ble_eq_true rfl)⟩ hP hD hS (wX5_b_0_4_0_10_X3X3 _ _ _) rfl (wX3X3_g0_0 _ _ _ _ _) rfl (wX5_p_0_4_0_10_X3X3 _ _ _ _) rfl hl.1 rfl (Nat.le_of_ble_eq_true rfl) dX5_layFold_63 ⟨Nat.le_refl _, Nat.le_refl _⟩ (fun H locs hP hD hS => ?_)
                    exact J2 (sg_sp (sg_st σ 2 (p1 : Int32).toNatClampNeg (am_choice (p2 : Int32).toNatClampNeg)) 4 6 z20) hf H locs ls hP hD hS (lv_sub hl [0, 1, 2] rfl)
                  · have hf := (if_neg c19).symm.trans hf
                    by_cases c21 : p1 = 2
                    · have hf := (if_pos c21).symm.trans hf
                      refine r_aldq X hP 3 3 (wX5_g0_3 _ _ _) rfl c21 (vin_d rfl) (v := a 16) rfl dX5_layFold_62 ?_
                      obtain ⟨z22, hz22, hf⟩ := obd hf
                      refine cV_putV X (As := [.ref (a 16)]) (rest := []) (c_X3_copyFrom l E (sg_off a 4) (sg_off (sg_st σ 2 (p1 : Int32).toNatClampNeg (am_choice (p2 : Int32).toNatClampNeg)) 4) (sg_off a 16) (sg_off (sg_st σ 2 (p1 : Int32).toNatClampNeg (am_choice (p2 : Int32).toNatClampNeg)) 16) hz22) pv_X3_copyFrom ml_X5_33 ⟨rfl, rfl⟩ ⟨(Nat.le_of_ble_eq_true rfl), (Nat.le_of_ble_eq_true rfl)⟩ hP hD hS (wX5_b_0_4_0_16_X3X3 _ _ _) rfl (wX3X3_g0_0 _ _ _ _ _) rfl (wX5_p_0_4_0_16_X3X3 _ _ _ _) rfl hl.1 rfl (Nat.le_of_ble_eq_true rfl) dX5_layFold_63 ⟨Nat.le_refl _, Nat.le_refl _⟩ (fun H locs hP hD hS => ?_)
                      exact J2 (sg_sp (sg_st σ 2 (p1 : Int32).toNatClampNeg (am_choice (p2 : Int32).toNatClampNeg)) 4 6 z22) hf H locs ls hP hD hS (lv_sub hl [0, 1, 2] rfl)
                    · have hf := (if_neg c21).symm.trans hf
                      exact ob_none hf
              · have hf := (if_neg c16).symm.trans hf
                by_cases c23 : (p1 + 1) = 1
                · have hf := (if_pos c23).symm.trans hf
                  refine r_aldq X hP 3 3 (wX5_g0_3 _ _ _) rfl c23 (vin_d rfl) (v := a 10) rfl dX5_layFold_56 ?_
                  refine lv_aload_n hx hb dX5_layFold_57 rfl (lv_at hl 0 rfl) ?_
                  refine r_get X hP 0 (wX5_g0_0 _ _ _) rfl inc_X5 3 (by decide) fl_X5_24 rfl dX5_layFold_58 ?_
                  refine lv_iload_n hx hb dX5_layFold_61 rfl (lv_at hl 1 rfl) ?_
                  by_cases c24 : p1 = 0
                  · have hf := (if_pos c24).symm.trans hf
                    refine r_aldq X hP 3 3 (wX5_g0_3 _ _ _) rfl c24 (vin_d rfl) (v := a 4) rfl dX5_layFold_62 ?_
                    obtain ⟨z25, hz25, hf⟩ := obd hf
                    refine cV_putV X (As := [.ref (a 4)]) (rest := []) (c_X3_copyFrom l E (sg_off a 10) (sg_off (sg_st σ 2 (p1 : Int32).toNatClampNeg (am_choice (p2 : Int32).toNatClampNeg)) 10) (sg_off a 4) (sg_off (sg_st σ 2 (p1 : Int32).toNatClampNeg (am_choice (p2 : Int32).toNatClampNeg)) 4) hz25) pv_X3_copyFrom ml_X5_33 ⟨rfl, rfl⟩ ⟨(Nat.le_of_ble_eq_true rfl), (Nat.le_of_ble_eq_true rfl)⟩ hP hD hS (wX5_b_0_10_0_4_X3X3 _ _ _) rfl (wX3X3_g0_0 _ _ _ _ _) rfl (wX5_p_0_10_0_4_X3X3 _ _ _ _) rfl hl.1 rfl (Nat.le_of_ble_eq_true rfl) dX5_layFold_63 ⟨Nat.le_refl _, Nat.le_refl _⟩ (fun H locs hP hD hS => ?_)
                    exact J2 (sg_sp (sg_st σ 2 (p1 : Int32).toNatClampNeg (am_choice (p2 : Int32).toNatClampNeg)) 10 6 z25) hf H locs ls hP hD hS (lv_sub hl [0, 1, 2] rfl)
                  · have hf := (if_neg c24).symm.trans hf
                    by_cases c26 : p1 = 1
                    · have hf := (if_pos c26).symm.trans hf
                      refine r_aldq X hP 3 3 (wX5_g0_3 _ _ _) rfl c26 (vin_d rfl) (v := a 10) rfl dX5_layFold_62 ?_
                      exact ob_none hf
                    · have hf := (if_neg c26).symm.trans hf
                      by_cases c28 : p1 = 2
                      · have hf := (if_pos c28).symm.trans hf
                        refine r_aldq X hP 3 3 (wX5_g0_3 _ _ _) rfl c28 (vin_d rfl) (v := a 16) rfl dX5_layFold_62 ?_
                        obtain ⟨z29, hz29, hf⟩ := obd hf
                        refine cV_putV X (As := [.ref (a 16)]) (rest := []) (c_X3_copyFrom l E (sg_off a 10) (sg_off (sg_st σ 2 (p1 : Int32).toNatClampNeg (am_choice (p2 : Int32).toNatClampNeg)) 10) (sg_off a 16) (sg_off (sg_st σ 2 (p1 : Int32).toNatClampNeg (am_choice (p2 : Int32).toNatClampNeg)) 16) hz29) pv_X3_copyFrom ml_X5_33 ⟨rfl, rfl⟩ ⟨(Nat.le_of_ble_eq_true rfl), (Nat.le_of_ble_eq_true rfl)⟩ hP hD hS (wX5_b_0_10_0_16_X3X3 _ _ _) rfl (wX3X3_g0_0 _ _ _ _ _) rfl (wX5_p_0_10_0_16_X3X3 _ _ _ _) rfl hl.1 rfl (Nat.le_of_ble_eq_true rfl) dX5_layFold_63 ⟨Nat.le_refl _, Nat.le_refl _⟩ (fun H locs hP hD hS => ?_)
                        exact J2 (sg_sp (sg_st σ 2 (p1 : Int32).toNatClampNeg (am_choice (p2 : Int32).toNatClampNeg)) 10 6 z29) hf H locs ls hP hD hS (lv_sub hl [0, 1, 2] rfl)
                      · have hf := (if_neg c28).symm.trans hf
                        exact ob_none hf
                · have hf := (if_neg c23).symm.trans hf
                  by_cases c30 : (p1 + 1) = 2
                  · have hf := (if_pos c30).symm.trans hf
                    refine r_aldq X hP 3 3 (wX5_g0_3 _ _ _) rfl c30 (vin_d rfl) (v := a 16) rfl dX5_layFold_56 ?_
                    refine lv_aload_n hx hb dX5_layFold_57 rfl (lv_at hl 0 rfl) ?_
                    refine r_get X hP 0 (wX5_g0_0 _ _ _) rfl inc_X5 3 (by decide) fl_X5_24 rfl dX5_layFold_58 ?_
                    refine lv_iload_n hx hb dX5_layFold_61 rfl (lv_at hl 1 rfl) ?_
                    by_cases c31 : p1 = 0
                    · have hf := (if_pos c31).symm.trans hf
                      refine r_aldq X hP 3 3 (wX5_g0_3 _ _ _) rfl c31 (vin_d rfl) (v := a 4) rfl dX5_layFold_62 ?_
                      obtain ⟨z32, hz32, hf⟩ := obd hf
                      refine cV_putV X (As := [.ref (a 4)]) (rest := []) (c_X3_copyFrom l E (sg_off a 16) (sg_off (sg_st σ 2 (p1 : Int32).toNatClampNeg (am_choice (p2 : Int32).toNatClampNeg)) 16) (sg_off a 4) (sg_off (sg_st σ 2 (p1 : Int32).toNatClampNeg (am_choice (p2 : Int32).toNatClampNeg)) 4) hz32) pv_X3_copyFrom ml_X5_33 ⟨rfl, rfl⟩ ⟨(Nat.le_of_ble_eq_true rfl), (Nat.le_of_ble_eq_true rfl)⟩ hP hD hS (wX5_b_0_16_0_4_X3X3 _ _ _) rfl (wX3X3_g0_0 _ _ _ _ _) rfl (wX5_p_0_16_0_4_X3X3 _ _ _ _) rfl hl.1 rfl (Nat.le_of_ble_eq_true rfl) dX5_layFold_63 ⟨Nat.le_refl _, Nat.le_refl _⟩ (fun H locs hP hD hS => ?_)
                      exact J2 (sg_sp (sg_st σ 2 (p1 : Int32).toNatClampNeg (am_choice (p2 : Int32).toNatClampNeg)) 16 6 z32) hf H locs ls hP hD hS (lv_sub hl [0, 1, 2] rfl)
                    · have hf := (if_neg c31).symm.trans hf
                      by_cases c33 : p1 = 1
                      · have hf := (if_pos c33).symm.trans hf
                        refine r_aldq X hP 3 3 (wX5_g0_3 _ _ _) rfl c33 (vin_d rfl) (v := a 10) rfl dX5_layFold_62 ?_
                        obtain ⟨z34, hz34, hf⟩ := obd hf
                        refine cV_putV X (As := [.ref (a 10)]) (rest := []) (c_X3_copyFrom l E (sg_off a 16) (sg_off (sg_st σ 2 (p1 : Int32).toNatClampNeg (am_choice (p2 : Int32).toNatClampNeg)) 16) (sg_off a 10) (sg_off (sg_st σ 2 (p1 : Int32).toNatClampNeg (am_choice (p2 : Int32).toNatClampNeg)) 10) hz34) pv_X3_copyFrom ml_X5_33 ⟨rfl, rfl⟩ ⟨(Nat.le_of_ble_eq_true rfl), (Nat.le_of_ble_eq_true rfl)⟩ hP hD hS (wX5_b_0_16_0_10_X3X3 _ _ _) rfl (wX3X3_g0_0 _ _ _ _ _) rfl (wX5_p_0_16_0_10_X3X3 _ _ _ _) rfl hl.1 rfl (Nat.le_of_ble_eq_true rfl) dX5_layFold_63 ⟨Nat.le_refl _, Nat.le_refl _⟩ (fun H locs hP hD hS => ?_)
                        exact J2 (sg_sp (sg_st σ 2 (p1 : Int32).toNatClampNeg (am_choice (p2 : Int32).toNatClampNeg)) 16 6 z34) hf H locs ls hP hD hS (lv_sub hl [0, 1, 2] rfl)
                      · have hf := (if_neg c33).symm.trans hf
                        by_cases c35 : p1 = 2
                        · have hf := (if_pos c35).symm.trans hf
                          refine r_aldq X hP 3 3 (wX5_g0_3 _ _ _) rfl c35 (vin_d rfl) (v := a 16) rfl dX5_layFold_62 ?_
                          exact ob_none hf
                        · have hf := (if_neg c35).symm.trans hf
                          exact ob_none hf
                  · have hf := (if_neg c30).symm.trans hf
                    exact ob_none hf
            · have hf := (if_pos c7).symm.trans hf
              refine lv_iconst (v := 0) hx hb dX5_layFold_40 (by decide) ?_
              have ho := Option.some.inj hf
              have hv : 0 = out.1 := by rw [← ho]
              have hw := congrArg (fun o : Int32 × Sg => (wX5 E a o.2)) ho
              exact r_zret X hr hP hS rfl hv hw dX5_layFold_41
          by_cases c37 : p1 = 0
          · have hf := (if_pos c37).symm.trans hf
            refine r_aldq X hP 3 3 (wX5_g0_3 _ _ _) rfl c37 (vin_d rfl) (v := a 4) rfl dX5_layFold_32 ?_
            refine lv_iload_n hx hb dX5_layFold_33 rfl (lv_at hl 0 rfl) ?_
            obtain ⟨z38, hz38, hf⟩ := obd hf
            refine cV_roI X (As := [.int (am_choice (p2 : Int32).toNatClampNeg)]) (rest := []) (c_X3_canBend l E (sg_off a 4) (sg_off σ 4) (am_choice (p2 : Int32).toNatClampNeg) hz38) pv_X3_canBend ml_X5_75 ⟨rfl, rfl⟩ ⟨(Nat.le_of_ble_eq_true rfl), (Nat.le_of_ble_eq_true rfl)⟩ hP hD hS (wX5_b_0_4_X3 _ _ _) rfl (wX3_g0_0 _ _ _) rfl rfl hl.1 rfl (Nat.le_of_ble_eq_true rfl) dX5_layFold_34 ⟨Nat.le_refl _, Nat.le_refl _⟩ (fun H locs hP hS => ?_)
            exact J1 z38 hf H locs ls hP hD hS (lv_sub hl [1, 2, 0] rfl)
          · have hf := (if_neg c37).symm.trans hf
            by_cases c39 : p1 = 1
            · have hf := (if_pos c39).symm.trans hf
              refine r_aldq X hP 3 3 (wX5_g0_3 _ _ _) rfl c39 (vin_d rfl) (v := a 10) rfl dX5_layFold_32 ?_
              refine lv_iload_n hx hb dX5_layFold_33 rfl (lv_at hl 0 rfl) ?_
              obtain ⟨z40, hz40, hf⟩ := obd hf
              refine cV_roI X (As := [.int (am_choice (p2 : Int32).toNatClampNeg)]) (rest := []) (c_X3_canBend l E (sg_off a 10) (sg_off σ 10) (am_choice (p2 : Int32).toNatClampNeg) hz40) pv_X3_canBend ml_X5_75 ⟨rfl, rfl⟩ ⟨(Nat.le_of_ble_eq_true rfl), (Nat.le_of_ble_eq_true rfl)⟩ hP hD hS (wX5_b_0_10_X3 _ _ _) rfl (wX3_g0_0 _ _ _) rfl rfl hl.1 rfl (Nat.le_of_ble_eq_true rfl) dX5_layFold_34 ⟨Nat.le_refl _, Nat.le_refl _⟩ (fun H locs hP hS => ?_)
              exact J1 z40 hf H locs ls hP hD hS (lv_sub hl [1, 2, 0] rfl)
            · have hf := (if_neg c39).symm.trans hf
              by_cases c41 : p1 = 2
              · have hf := (if_pos c41).symm.trans hf
                refine r_aldq X hP 3 3 (wX5_g0_3 _ _ _) rfl c41 (vin_d rfl) (v := a 16) rfl dX5_layFold_32 ?_
                refine lv_iload_n hx hb dX5_layFold_33 rfl (lv_at hl 0 rfl) ?_
                obtain ⟨z42, hz42, hf⟩ := obd hf
                refine cV_roI X (As := [.int (am_choice (p2 : Int32).toNatClampNeg)]) (rest := []) (c_X3_canBend l E (sg_off a 16) (sg_off σ 16) (am_choice (p2 : Int32).toNatClampNeg) hz42) pv_X3_canBend ml_X5_75 ⟨rfl, rfl⟩ ⟨(Nat.le_of_ble_eq_true rfl), (Nat.le_of_ble_eq_true rfl)⟩ hP hD hS (wX5_b_0_16_X3 _ _ _) rfl (wX3_g0_0 _ _ _) rfl rfl hl.1 rfl (Nat.le_of_ble_eq_true rfl) dX5_layFold_34 ⟨Nat.le_refl _, Nat.le_refl _⟩ (fun H locs hP hS => ?_)
                exact J1 z42 hf H locs ls hP hD hS (lv_sub hl [1, 2, 0] rfl)
              · have hf := (if_neg c41).symm.trans hf
                exact ob_none hf
        · have hf := (if_neg c4).symm.trans hf
          refine lv_iconst (v := 0) hx hb dX5_layFold_19 (by decide) ?_
          have ho := Option.some.inj hf
          have hv : 0 = out.1 := by rw [← ho]
          have hw := congrArg (fun o : Int32 × Sg => (wX5 E a o.2)) ho
          exact r_zret X hr hP hS rfl hv hw dX5_layFold_20
def rm_X5_lay : Room := { frames := 4, cells := 0, slots := 0, locals := 98 }
theorem pv_X5_lay : PkV RX5 yX5_lay cX5_lay 4 (some .boolean) 2 := ⟨im_X5_lay, se_X5_lay, ini_X5, cd_X5_lay, by decide +kernel⟩
set_option maxHeartbeats 4000000 in
set_option maxRecDepth 100000 in
theorem c_X5_lay (l : Launch) (E : Ev) (a : Nat → Nat) (σ : Sg) (p1 : Int32) (p2 : Int32) {out : Int32 × Sg} (hf : f_X5_lay σ p1 p2 = some out) : MtI l yX5_lay (wl yX5_lay cX5_lay 4 (some .boolean)) rm_X5_lay E [.ref (a 0), .int p1, .int p2] (wX5 E a σ) out.1 (wX5 E a out.2) := by
  refine mt_of (QQ := (fun A => va_Qi (fun x (_ : Unit) => x = out.1) (fun _ t => QW E (wX5 E a out.2) t) A)) (by decide) (Nat.le_of_ble_eq_true rfl) (fun p e s m below meth c A ls X hr hP hD hS hl => ?_)
  have hx := X.1.1
  have hb := X.1.2.1
  have hl : lv_has ls 4 [(0, .ref (a 0)), (1, .int p1), (2, .int p2)] := hl
  obtain ⟨H, hHe⟩ : ∃ H : Heap, H = s.heap := ⟨_, rfl⟩
  obtain ⟨locs, hLe⟩ : ∃ locs : List Loc, locs = [] := ⟨_, rfl⟩
  have hP : va_P E.1 vwCl (wX5 E a σ) H := by rw [hHe]; exact hP
  have hS : va_S A s.heap H locs := by rw [hHe, hLe]; exact hS
  rw [← hLe, show W p l e rm_X5_lay s m ([.ref (a 0), .int p1, .int p2] : List Value).toArray below meth c s.heap locs 0 0 = W p l e rm_X5_lay s m ([.ref (a 0), .int p1, .int p2] : List Value).toArray below meth c H locs 0 0 from by rw [hHe]]
  refine lv_iload_n hx hb dX5_lay_0 rfl (lv_at hl 1 rfl) ?_
  refine lv_if_ne (tgt := 6) hx hb dX5_lay_1 (by decide) (fun c1 => ?_) (fun c1 => ?_)
  · have hf := (if_neg c1).symm.trans hf
    refine lv_iload_n hx hb dX5_lay_6 rfl (lv_at hl 1 rfl) ?_
    refine lv_iconst (v := 1) hx hb dX5_lay_7 (by decide) ?_
    refine lv_icmp_ne (tgt := 18) hx hb dX5_lay_8 (by decide) (fun c2 => ?_) (fun c2 => ?_)
    · have hf := (if_neg c2).symm.trans hf
      refine lv_iload_n hx hb dX5_lay_18 rfl (lv_at hl 2 rfl) ?_
      refine lv_bipush (v := 12) hx hb dX5_lay_19 (by decide) ?_
      refine lv_irem hx hb dX5_lay_21 (by decide) ?_
      refine lv_istore_n (lv' := [(3, .int (p2 - p2 / 12 * 12)), (0, .ref (a 0)), (1, .int p1), (2, .int p2)]) hx hb dX5_lay_22 rfl hl (by decide) rfl (fun ls hl => ?_)
      refine lv_iload_n hx hb dX5_lay_23 rfl (lv_at hl 0 rfl) ?_
      have J1 : ∀ (g3 : Sg), j_X5_lay_1 p2 g3 = some out → ∀ (H : Heap) (locs : List Loc) (ls : Array Slot), va_P E.1 vwCl (wX5 E a g3) H → va_D A (wX5 E a g3) → va_S A s.heap H locs → lv_has ls 4 [(0, .ref (a 0)), (3, .int (p2 - p2 / 12 * 12))] → W p l e rm_X5_lay s m ([.ref (a 0), .int p1, .int p2] : List Value).toArray below meth c H locs 0 0 (MQ below (va_Qi (fun x (_ : Unit) => x = out.1) (fun _ t => QW E (wX5 E a out.2) t) A) ([.ref (a 0), .int p1, .int p2] : List Value).toArray s 0 0 A) (F0 m 40 ls []) := by
        intro g3 hf H locs ls hP hD hS hl
        refine lv_aload_n hx hb dX5_lay_40 rfl (lv_at hl 0 rfl) ?_
        refine r_get X hP 0 (wX5_g0_0 _ _ _) rfl inc_X5 4 (by decide) fl_X5_28 rfl dX5_lay_41 ?_
        refine lv_if_eq (tgt := 60) hx hb dX5_lay_44 (by decide) (fun c4 => ?_) (fun c4 => ?_)
        · have hf := (if_pos c4).symm.trans hf
          refine lv_iconst (v := 0) hx hb dX5_lay_60 (by decide) ?_
          have ho := Option.some.inj hf
          have hv : 0 = out.1 := by rw [← ho]
          have hw := congrArg (fun o : Int32 × Sg => (wX5 E a o.2)) ho
          exact r_zret X hr hP hS rfl hv hw dX5_lay_61
        · have hf := (if_neg c4).symm.trans hf
          refine lv_aload_n hx hb dX5_lay_47 rfl (lv_at hl 0 rfl) ?_
          refine lv_iconst (v := 1) hx hb dX5_lay_48 (by decide) ?_
          refine lv_iload_n hx hb dX5_lay_49 rfl (lv_at hl 1 rfl) ?_
          obtain ⟨z5, hz5, hf⟩ := obd hf
          refine cV_allI X (As := [.int 1, .int (p2 - p2 / 12 * 12)]) (rest := []) (c_X5_layFold l E a g3 1 (p2 - p2 / 12 * 12) hz5) pv_X5_layFold ml_X5_69 ⟨rfl, rfl⟩ ⟨(Nat.le_of_ble_eq_true rfl), (Nat.le_of_ble_eq_true rfl)⟩ hP hD hS (wX5_g0_0 _ _ _) rfl (wX5_adr _ _ _ _) rfl hl.1 rfl (Nat.le_of_ble_eq_true rfl) dX5_lay_50 ⟨Nat.le_refl _, Nat.le_refl _⟩ (fun H locs hP hD hS => ?_)
          refine lv_if_eq (tgt := 60) hx hb dX5_lay_53 (by decide) (fun c6 => ?_) (fun c6 => ?_)
          · have hf := (if_pos c6).symm.trans hf
            refine lv_iconst (v := 0) hx hb dX5_lay_60 (by decide) ?_
            have ho := Option.some.inj hf
            have hv : 0 = out.1 := by rw [← ho]
            have hw := congrArg (fun o : Int32 × Sg => (wX5 E a o.2)) ho
            exact r_zret X hr hP hS rfl hv hw dX5_lay_61
          · have hf := (if_neg c6).symm.trans hf
            refine lv_iconst (v := 1) hx hb dX5_lay_56 (by decide) ?_
            refine lv_goto (tgt := 61) hx hb dX5_lay_57 (by decide) ?_
            have ho := Option.some.inj hf
            have hv : 1 = out.1 := by rw [← ho]
            have hw := congrArg (fun o : Int32 × Sg => (wX5 E a o.2)) ho
            exact r_zret X hr hP hS rfl hv hw dX5_lay_61
      refine lv_if_ne (tgt := 40) hx hb dX5_lay_24 (by decide) (fun c7 => ?_) (fun c7 => ?_)
      · have hf := (if_neg c7).symm.trans hf
        exact J1 σ hf H locs ls hP hD hS (lv_sub hl [1, 0] rfl)
      · have hf := (if_pos c7).symm.trans hf
        refine lv_aload_n hx hb dX5_lay_27 rfl (lv_at hl 1 rfl) ?_
        refine lv_aload_n hx hb dX5_lay_28 rfl (lv_at hl 1 rfl) ?_
        refine lv_iconst (v := 0) hx hb dX5_lay_29 (by decide) ?_
        refine lv_iload_n hx hb dX5_lay_30 rfl (lv_at hl 3 rfl) ?_
        refine lv_bipush (v := 12) hx hb dX5_lay_31 (by decide) ?_
        refine lv_idiv hx hb dX5_lay_33 (by decide) ?_
        obtain ⟨z8, hz8, hf⟩ := obd hf
        refine cV_allI X (As := [.int 0, .int (p2 / 12)]) (rest := [.ref (a 0)]) (c_X5_layFold l E a σ 0 (p2 / 12) hz8) pv_X5_layFold ml_X5_69 ⟨rfl, rfl⟩ ⟨(Nat.le_of_ble_eq_true rfl), (Nat.le_of_ble_eq_true rfl)⟩ hP hD hS (wX5_g0_0 _ _ _) rfl (wX5_adr _ _ _ _) rfl hl.1 rfl (Nat.le_of_ble_eq_true rfl) dX5_lay_34 ⟨Nat.le_refl _, Nat.le_refl _⟩ (fun H locs hP hD hS => ?_)
        obtain ⟨⟨h9, f9⟩, hf⟩ := cbl_in hf
        refine r_put X hP hD hS 0 (wX5_g0_0 _ _ _) rfl inc_X5 tyX5 tyX5_ok nmX5 4 (by decide) fl_X5_28 rfl (ty := .boolean) rfl h9 f9 (Nat.le_of_ble_eq_true rfl) (wX5_s0_0_4 _ _ _ _) dX5_lay_37 (fun H locs hP hD hS => ?_)
        exact J1 (sg_st z8.2 0 4 z8.1) hf H locs ls hP hD hS (lv_sub hl [1, 0] rfl)
    · have hf := (if_pos c2).symm.trans hf
      refine lv_aload_n hx hb dX5_lay_11 rfl (lv_at hl 0 rfl) ?_
      refine lv_iconst (v := 0) hx hb dX5_lay_12 (by decide) ?_
      refine lv_iload_n hx hb dX5_lay_13 rfl (lv_at hl 2 rfl) ?_
      obtain ⟨z10, hz10, hf⟩ := obd hf
      refine cV_allI X (As := [.int 0, .int p2]) (rest := []) (c_X5_layFold l E a σ 0 p2 hz10) pv_X5_layFold ml_X5_69 ⟨rfl, rfl⟩ ⟨(Nat.le_of_ble_eq_true rfl), (Nat.le_of_ble_eq_true rfl)⟩ hP hD hS (wX5_g0_0 _ _ _) rfl (wX5_adr _ _ _ _) rfl hl.1 rfl (Nat.le_of_ble_eq_true rfl) dX5_lay_14 ⟨Nat.le_refl _, Nat.le_refl _⟩ (fun H locs hP hD hS => ?_)
      obtain ⟨⟨h11, -⟩, hf⟩ := cbl_in hf
      have ho := Option.some.inj hf
      have hv : z10.1 = out.1 := by rw [← ho]
      have hw := congrArg (fun o : Int32 × Sg => (wX5 E a o.2)) ho
      exact r_zret X hr hP hS h11 hv hw dX5_lay_17
  · have hf := (if_pos c1).symm.trans hf
    refine lv_iconst (v := 1) hx hb dX5_lay_4 (by decide) ?_
    have ho := Option.some.inj hf
    have hv : 1 = out.1 := by rw [← ho]
    have hw := congrArg (fun o : Int32 × Sg => (wX5 E a o.2)) ho
    exact r_zret X hr hP hS rfl hv hw dX5_lay_5
def rm_X5_countFitting : Room := { frames := 5, cells := 0, slots := 0, locals := 121 }
theorem pv_X5_countFitting : PkV RX5 yX5_countFitting cX5_countFitting 5 (some .int) 2 := ⟨im_X5_countFitting, se_X5_countFitting, ini_X5, cd_X5_countFitting, by decide +kernel⟩
set_option maxHeartbeats 4000000 in
set_option maxRecDepth 100000 in
theorem c_X5_countFitting (l : Launch) (E : Ev) (a : Nat → Nat) (σ : Sg) (b : Nat → Nat) (τ : Sg) (p1 : Int32) {out : Int32 × Sg} (hf : f_X5_countFitting σ τ p1 = some out) : MtI l yX5_countFitting (wl yX5_countFitting cX5_countFitting 5 (some .int)) rm_X5_countFitting E [.ref (a 0), .int p1, .ref (b 0)] (wX5X4 E a σ b τ) out.1 (wX5X4 E a out.2 b τ) := by
  refine mt_of (QQ := (fun A => va_Qi (fun x (_ : Unit) => x = out.1) (fun _ t => QW E (wX5X4 E a out.2 b τ) t) A)) (by decide) (Nat.le_of_ble_eq_true rfl) (fun p e s m below meth c A ls X hr hP hD hS hl => ?_)
  have hx := X.1.1
  have hb := X.1.2.1
  have hl : lv_has ls 5 [(0, .ref (a 0)), (1, .int p1), (2, .ref (b 0))] := hl
  obtain ⟨H, hHe⟩ : ∃ H : Heap, H = s.heap := ⟨_, rfl⟩
  obtain ⟨locs, hLe⟩ : ∃ locs : List Loc, locs = [] := ⟨_, rfl⟩
  have hP : va_P E.1 vwCl (wX5X4 E a σ b τ) H := by rw [hHe]; exact hP
  have hS : va_S A s.heap H locs := by rw [hHe, hLe]; exact hS
  rw [← hLe, show W p l e rm_X5_countFitting s m ([.ref (a 0), .int p1, .ref (b 0)] : List Value).toArray below meth c s.heap locs 0 0 = W p l e rm_X5_countFitting s m ([.ref (a 0), .int p1, .ref (b 0)] : List Value).toArray below meth c H locs 0 0 from by rw [hHe]]
  refine lv_iload_n hx hb dX5_countFitting_0 rfl (lv_at hl 1 rfl) ?_
  refine lv_if_lt (tgt := 9) hx hb dX5_countFitting_1 (by decide) (fun c1 => ?_) (fun c1 => ?_)
  · have hf := (if_pos c1).symm.trans hf
    refine lv_iconst (v := 0) hx hb dX5_countFitting_9 (by decide) ?_
    have ho := Option.some.inj hf
    have hv : 0 = out.1 := by rw [← ho]
    have hw := congrArg (fun o : Int32 × Sg => (wX5X4 E a o.2 b τ)) ho
    exact r_iret X hr hP hS hv hw dX5_countFitting_10
  · have hf := (if_neg c1).symm.trans hf
    refine lv_iload_n hx hb dX5_countFitting_4 rfl (lv_at hl 1 rfl) ?_
    refine lv_iconst (v := 2) hx hb dX5_countFitting_5 (by decide) ?_
    refine lv_icmp_le (tgt := 11) hx hb dX5_countFitting_6 (by decide) (fun c2 => ?_) (fun c2 => ?_)
    · have hf := (if_pos c2).symm.trans hf
      refine lv_iconst (v := 0) hx hb dX5_countFitting_11 (by decide) ?_
      refine lv_istore_n (lv' := [(3, .int 0), (0, .ref (a 0)), (1, .int p1), (2, .ref (b 0))]) hx hb dX5_countFitting_12 rfl hl (by decide) rfl (fun ls hl => ?_)
      refine lv_iconst (v := 0) hx hb dX5_countFitting_13 (by decide) ?_
      refine lv_istore (lv' := [(4, .int 0), (3, .int 0), (0, .ref (a 0)), (1, .int p1), (2, .ref (b 0))]) hx hb dX5_countFitting_14 hl (by decide) rfl (fun ls hl => ?_)
      have J1 : ∀ (x3 : Int32) (g4 : Sg), j_X5_countFitting_1 p1 x3 g4 = some out → ∀ (H : Heap) (locs : List Loc) (ls : Array Slot), va_P E.1 vwCl (wX5X4 E a g4 b τ) H → va_D A (wX5X4 E a g4 b τ) → va_S A s.heap H locs → lv_has ls 5 [(1, .int p1), (3, .int x3)] → W p l e rm_X5_countFitting s m ([.ref (a 0), .int p1, .ref (b 0)] : List Value).toArray below meth c H locs 0 0 (MQ below (va_Qi (fun x (_ : Unit) => x = out.1) (fun _ t => QW E (wX5X4 E a out.2 b τ) t) A) ([.ref (a 0), .int p1, .ref (b 0)] : List Value).toArray s 0 0 A) (F0 m 58 ls []) := by
        intro x3 g4 hf H locs ls hP hD hS hl
        refine lv_iload_n hx hb dX5_countFitting_58 rfl (lv_at hl 1 rfl) ?_
        refine lv_iload_n hx hb dX5_countFitting_59 rfl (lv_at hl 0 rfl) ?_
        refine lv_ishl hx hb dX5_countFitting_60 ?_
        have ho := Option.some.inj hf
        have hv : (x3 <<< (p1 &&& 31)) = out.1 := by rw [← ho]
        have hw := congrArg (fun o : Int32 × Sg => (wX5X4 E a o.2 b τ)) ho
        exact r_iret X hr hP hS hv hw dX5_countFitting_61
      have L9 := lc3_ind (o := out) (step := (s_X5_countFitting_16 τ p1 (j_X5_countFitting_1 p1))) (fun x5 x6 g7 => ∀ (H : Heap) (locs : List Loc) (ls : Array Slot), va_P E.1 vwCl (wX5X4 E a g7 b τ) H → va_D A (wX5X4 E a g7 b τ) → va_S A s.heap H locs → lv_has ls 5 [(0, .ref (a 0)), (1, .int p1), (2, .ref (b 0)), (3, .int x5), (4, .int x6)] → W p l e rm_X5_countFitting s m ([.ref (a 0), .int p1, .ref (b 0)] : List Value).toArray below meth c H locs 0 0 (MQ below (va_Qi (fun x (_ : Unit) => x = out.1) (fun _ t => QW E (wX5X4 E a out.2 b τ) t) A) ([.ref (a 0), .int p1, .ref (b 0)] : List Value).toArray s 0 0 A) (F0 m 16 ls [])) (fun x5 x6 g7 k8 ih9 hf H locs ls hP hD hS hl => by
        refine lv_iload hx hb dX5_countFitting_16 (lv_at hl 4 rfl) ?_
        refine va_gets hx hb X.2.2.1.2.2.1 hS X.1.2.2.2.1 (X.1.2.2.2.2 _ fl_X5_41) (fun _ h9 => h9) dX5_countFitting_18 ?_
        refine lv_iload_n hx hb dX5_countFitting_21 rfl (lv_at hl 1 rfl) ?_
        obtain ⟨h10, hf⟩ := chk_in hf
        refine va_ti hx hb X.2.2.1.2.2.2.1 hS h10 rfl dX5_countFitting_22 ?_
        refine lv_icmp_ge (tgt := 58) hx hb dX5_countFitting_23 (by decide) (fun c11 => ?_) (fun c11 => ?_)
        · have hf := (if_pos c11).symm.trans hf
          exact J1 x5 g7 hf H locs ls hP hD hS (lv_sub hl [1, 3] rfl)
        · have hf := (if_neg c11).symm.trans hf
          refine lv_aload_n hx hb dX5_countFitting_26 rfl (lv_at hl 0 rfl) ?_
          refine lv_iload_n hx hb dX5_countFitting_27 rfl (lv_at hl 1 rfl) ?_
          refine lv_iload hx hb dX5_countFitting_28 (lv_at hl 4 rfl) ?_
          obtain ⟨z12, hz12, hf⟩ := obd hf
          refine cV_putI X (As := [.int p1, .int x6]) (rest := []) (c_X5_lay l E a g7 p1 x6 hz12) pv_X5_lay ml_X5_44 ⟨rfl, rfl⟩ ⟨(Nat.le_of_ble_eq_true rfl), (Nat.le_of_ble_eq_true rfl)⟩ hP hD hS (wX5X4_b_0_0_X5 _ _ _ _ _) rfl (wX5_g0_0 _ _ _) rfl (wX5X4_p_0_0_X5 _ _ _ _ _ _) rfl hl.1 rfl (Nat.le_of_ble_eq_true rfl) dX5_countFitting_30 ⟨Nat.le_refl _, Nat.le_refl _⟩ (fun H locs hP hD hS => ?_)
          refine lv_if_eq (tgt := 52) hx hb dX5_countFitting_33 (by decide) (fun c13 => ?_) (fun c13 => ?_)
          · have hf := (if_pos c13).symm.trans hf
            refine lv_iinc (v := (x6 + 1)) (lv' := [(4, .int (x6 + 1)), (0, .ref (a 0)), (1, .int p1), (2, .ref (b 0)), (3, .int x5)]) hx hb dX5_countFitting_52 hl (k := 4) rfl rfl (by decide) rfl (fun ls hl => ?_)
            refine lv_goto (tgt := 16) hx hb dX5_countFitting_55 (by decide) ?_
            exact ih9 x5 (x6 + 1) z12.2 hf H locs ls hP hD hS (lv_sub hl [1, 2, 3, 4, 0] rfl)
          · have hf := (if_neg c13).symm.trans hf
            refine lv_aload_n hx hb dX5_countFitting_36 rfl (lv_at hl 0 rfl) ?_
            refine r_get X hP 0 (wX5X4_g0_0 _ _ _ _ _) rfl inc_X5 3 (by decide) fl_X5_24 rfl dX5_countFitting_37 ?_
            refine lv_iload_n hx hb dX5_countFitting_40 rfl (lv_at hl 1 rfl) ?_
            have J2 : ∀ (x14 : Int32), j_X5_countFitting_2 x5 x6 k8 z12 x14 = some out → ∀ (H : Heap) (locs : List Loc) (ls : Array Slot), va_P E.1 vwCl (wX5X4 E a z12.2 b τ) H → va_D A (wX5X4 E a z12.2 b τ) → va_S A s.heap H locs → lv_has ls 5 [(0, .ref (a 0)), (1, .int p1), (2, .ref (b 0)), (3, .int x5), (4, .int x6)] → W p l e rm_X5_countFitting s m ([.ref (a 0), .int p1, .ref (b 0)] : List Value).toArray below meth c H locs 0 0 (MQ below (va_Qi (fun x (_ : Unit) => x = out.1) (fun _ t => QW E (wX5X4 E a out.2 b τ) t) A) ([.ref (a 0), .int p1, .ref (b 0)] : List Value).toArray s 0 0 A) (F0 m 46 ls [.int x14]) := by
              intro x14 hf H locs ls hP hD hS hl
              refine lv_if_eq (tgt := 52) hx hb dX5_countFitting_46 (by decide) (fun c15 => ?_) (fun c15 => ?_)
              · have hf := (if_pos c15).symm.trans hf
                refine lv_iinc (v := (x6 + 1)) (lv' := [(4, .int (x6 + 1)), (0, .ref (a 0)), (1, .int p1), (2, .ref (b 0)), (3, .int x5)]) hx hb dX5_countFitting_52 hl (k := 4) rfl rfl (by decide) rfl (fun ls hl => ?_)
                refine lv_goto (tgt := 16) hx hb dX5_countFitting_55 (by decide) ?_
                exact ih9 x5 (x6 + 1) z12.2 hf H locs ls hP hD hS (lv_sub hl [1, 2, 3, 4, 0] rfl)
              · have hf := (if_neg c15).symm.trans hf
                refine lv_iinc (v := (x5 + 1)) (lv' := [(3, .int (x5 + 1)), (0, .ref (a 0)), (1, .int p1), (2, .ref (b 0)), (4, .int x6)]) hx hb dX5_countFitting_49 hl (k := 3) rfl rfl (by decide) rfl (fun ls hl => ?_)
                refine lv_iinc (v := (x6 + 1)) (lv' := [(4, .int (x6 + 1)), (3, .int (x5 + 1)), (0, .ref (a 0)), (1, .int p1), (2, .ref (b 0))]) hx hb dX5_countFitting_52 hl (k := 4) rfl rfl (by decide) rfl (fun ls hl => ?_)
                refine lv_goto (tgt := 16) hx hb dX5_countFitting_55 (by decide) ?_
                exact ih9 (x5 + 1) (x6 + 1) z12.2 hf H locs ls hP hD hS (lv_sub hl [2, 3, 4, 1, 0] rfl)
            by_cases c16 : p1 = 0
            · have hf := (if_pos c16).symm.trans hf
              refine r_aldq X hP 3 3 (wX5X4_g0_3 _ _ _ _ _) rfl c16 (vin_d rfl) (v := a 4) rfl dX5_countFitting_41 ?_
              refine lv_aload_n hx hb dX5_countFitting_42 rfl (lv_at hl 2 rfl) ?_
              obtain ⟨z17, hz17, hf⟩ := obd hf
              refine cV_roI X (As := [.ref (b 0)]) (rest := []) (c_X3_allTouch l E (sg_off a 4) (sg_off z12.2 4) b τ hz17) pv_X3_allTouch ml_X5_59 ⟨rfl, rfl⟩ ⟨(Nat.le_of_ble_eq_true rfl), (Nat.le_of_ble_eq_true rfl)⟩ hP hD hS (wX5X4_b_0_4_1_0_X3X4 _ _ _ _ _) rfl (wX3X4_g0_0 _ _ _ _ _) rfl rfl hl.1 rfl (Nat.le_of_ble_eq_true rfl) dX5_countFitting_43 ⟨Nat.le_refl _, Nat.le_refl _⟩ (fun H locs hP hS => ?_)
              exact J2 z17 hf H locs ls hP hD hS (lv_sub hl [0, 1, 2, 3, 4] rfl)
            · have hf := (if_neg c16).symm.trans hf
              by_cases c18 : p1 = 1
              · have hf := (if_pos c18).symm.trans hf
                refine r_aldq X hP 3 3 (wX5X4_g0_3 _ _ _ _ _) rfl c18 (vin_d rfl) (v := a 10) rfl dX5_countFitting_41 ?_
                refine lv_aload_n hx hb dX5_countFitting_42 rfl (lv_at hl 2 rfl) ?_
                obtain ⟨z19, hz19, hf⟩ := obd hf
                refine cV_roI X (As := [.ref (b 0)]) (rest := []) (c_X3_allTouch l E (sg_off a 10) (sg_off z12.2 10) b τ hz19) pv_X3_allTouch ml_X5_59 ⟨rfl, rfl⟩ ⟨(Nat.le_of_ble_eq_true rfl), (Nat.le_of_ble_eq_true rfl)⟩ hP hD hS (wX5X4_b_0_10_1_0_X3X4 _ _ _ _ _) rfl (wX3X4_g0_0 _ _ _ _ _) rfl rfl hl.1 rfl (Nat.le_of_ble_eq_true rfl) dX5_countFitting_43 ⟨Nat.le_refl _, Nat.le_refl _⟩ (fun H locs hP hS => ?_)
                exact J2 z19 hf H locs ls hP hD hS (lv_sub hl [0, 1, 2, 3, 4] rfl)
              · have hf := (if_neg c18).symm.trans hf
                by_cases c20 : p1 = 2
                · have hf := (if_pos c20).symm.trans hf
                  refine r_aldq X hP 3 3 (wX5X4_g0_3 _ _ _ _ _) rfl c20 (vin_d rfl) (v := a 16) rfl dX5_countFitting_41 ?_
                  refine lv_aload_n hx hb dX5_countFitting_42 rfl (lv_at hl 2 rfl) ?_
                  obtain ⟨z21, hz21, hf⟩ := obd hf
                  refine cV_roI X (As := [.ref (b 0)]) (rest := []) (c_X3_allTouch l E (sg_off a 16) (sg_off z12.2 16) b τ hz21) pv_X3_allTouch ml_X5_59 ⟨rfl, rfl⟩ ⟨(Nat.le_of_ble_eq_true rfl), (Nat.le_of_ble_eq_true rfl)⟩ hP hD hS (wX5X4_b_0_16_1_0_X3X4 _ _ _ _ _) rfl (wX3X4_g0_0 _ _ _ _ _) rfl rfl hl.1 rfl (Nat.le_of_ble_eq_true rfl) dX5_countFitting_43 ⟨Nat.le_refl _, Nat.le_refl _⟩ (fun H locs hP hS => ?_)
                  exact J2 z21 hf H locs ls hP hD hS (lv_sub hl [0, 1, 2, 3, 4] rfl)
                · have hf := (if_neg c20).symm.trans hf
                  exact ob_none hf)
      exact L9 1000 0 0 σ hf H locs ls hP hD hS (lv_sub hl [2, 3, 4, 1, 0] rfl)
    · have hf := (if_neg c2).symm.trans hf
      refine lv_iconst (v := 0) hx hb dX5_countFitting_9 (by decide) ?_
      have ho := Option.some.inj hf
      have hv : 0 = out.1 := by rw [← ho]
      have hw := congrArg (fun o : Int32 × Sg => (wX5X4 E a o.2 b τ)) ho
      exact r_iret X hr hP hS hv hw dX5_countFitting_10
def rm_X5_noteFound : Room := { frames := 1, cells := 0, slots := 0, locals := 40 }
theorem pv_X5_noteFound : PkV RX5 yX5_noteFound cX5_noteFound 2 none 1 := ⟨im_X5_noteFound, se_X5_noteFound, ini_X5, cd_X5_noteFound, by decide +kernel⟩
set_option maxHeartbeats 4000000 in
set_option maxRecDepth 100000 in
theorem c_X5_noteFound (l : Launch) (E : Ev) (a : Nat → Nat) (σ : Sg) (p1 : Int32) {out : Sg} (hf : f_X5_noteFound σ p1 = some out) : MtV l yX5_noteFound (wl yX5_noteFound cX5_noteFound 2 none) rm_X5_noteFound E [.ref (a 0), .int p1] (wX5 E a σ) (wX5 E a out) := by
  refine mt_of (QQ := (fun A => va_Qv (fun _ : Unit => True) (fun _ t => QW E (wX5 E a out) t) A)) (by decide) (Nat.le_of_ble_eq_true rfl) (fun p e s m below meth c A ls X hr hP hD hS hl => ?_)
  have hx := X.1.1
  have hb := X.1.2.1
  have hl : lv_has ls 2 [(0, .ref (a 0)), (1, .int p1)] := hl
  obtain ⟨H, hHe⟩ : ∃ H : Heap, H = s.heap := ⟨_, rfl⟩
  obtain ⟨locs, hLe⟩ : ∃ locs : List Loc, locs = [] := ⟨_, rfl⟩
  have hP : va_P E.1 vwCl (wX5 E a σ) H := by rw [hHe]; exact hP
  have hS : va_S A s.heap H locs := by rw [hHe, hLe]; exact hS
  rw [← hLe, show W p l e rm_X5_noteFound s m ([.ref (a 0), .int p1] : List Value).toArray below meth c s.heap locs 0 0 = W p l e rm_X5_noteFound s m ([.ref (a 0), .int p1] : List Value).toArray below meth c H locs 0 0 from by rw [hHe]]
  refine lv_aload_n hx hb dX5_noteFound_0 rfl (lv_at hl 0 rfl) ?_
  refine r_get X hP 0 (wX5_g0_0 _ _ _) rfl inc_X5 2 (by decide) fl_X5_19 rfl dX5_noteFound_1 ?_
  refine lv_iconst (v := 0) hx hb dX5_noteFound_4 (by decide) ?_
  refine lv_aload_n hx hb dX5_noteFound_5 rfl (lv_at hl 0 rfl) ?_
  refine r_get X hP 0 (wX5_g0_0 _ _ _) rfl inc_X5 1 (by decide) fl_X5_15 rfl dX5_noteFound_6 ?_
  refine lv_iconst (v := 0) hx hb dX5_noteFound_9 (by decide) ?_
  refine lv_iload_n hx hb dX5_noteFound_10 rfl (lv_at hl 1 rfl) ?_
  obtain ⟨h1, hf⟩ := ccp_in hf
  refine r_copy X hl.1 hP hD hS ml_X5_63 nv_arraycopy sm_arraycopy ini_J10 2 1 (wX5_g0_2 _ _ _) (wX5_g0_1 _ _ _) h1 (Nat.le_of_ble_eq_true rfl) (Nat.le_of_ble_eq_true rfl) (wX5_r0_1 _ _ _ _) dX5_noteFound_11 (fun H locs hP hD hS => ?_)
  refine lv_aload_n hx hb dX5_noteFound_14 rfl (lv_at hl 0 rfl) ?_
  refine lv_iload_n hx hb dX5_noteFound_15 rfl (lv_at hl 1 rfl) ?_
  refine r_put X hP hD hS 0 (wX5_g0_0 _ _ _) rfl inc_X5 tyX5 tyX5_ok nmX5 0 (by decide) fl_X5_9 rfl (ty := .int) rfl rfl rfl (Nat.le_of_ble_eq_true rfl) (wX5_s0_0_0 _ _ _ _) dX5_noteFound_16 (fun H locs hP hD hS => ?_)
  have ho := Option.some.inj hf
  have hw := congrArg (fun o : Sg => (wX5 E a o)) ho
  exact r_vret X hr hP hS hw dX5_noteFound_19
def rm_X5_findBestGain : Room := { frames := 5, cells := 0, slots := 0, locals := 121 }
theorem pv_X5_findBestGain : PkV RX5 yX5_findBestGain cX5_findBestGain 7 (some .int) 2 := ⟨im_X5_findBestGain, se_X5_findBestGain, ini_X5, cd_X5_findBestGain, by decide +kernel⟩
set_option maxHeartbeats 4000000 in
set_option maxRecDepth 100000 in
theorem c_X5_findBestGain (l : Launch) (E : Ev) (a : Nat → Nat) (σ : Sg) (b : Nat → Nat) (τ : Sg) (p1 : Int32) {out : Int32 × Sg} (hf : f_X5_findBestGain σ τ p1 = some out) : MtI l yX5_findBestGain (wl yX5_findBestGain cX5_findBestGain 7 (some .int)) rm_X5_findBestGain E [.ref (a 0), .int p1, .ref (b 0)] (wX5AI16 E a σ b τ) out.1 (wX5AI16 E a out.2 b τ) := by
  refine mt_of (QQ := (fun A => va_Qi (fun x (_ : Unit) => x = out.1) (fun _ t => QW E (wX5AI16 E a out.2 b τ) t) A)) (by decide) (Nat.le_of_ble_eq_true rfl) (fun p e s m below meth c A ls X hr hP hD hS hl => ?_)
  have hx := X.1.1
  have hb := X.1.2.1
  have hl : lv_has ls 7 [(0, .ref (a 0)), (1, .int p1), (2, .ref (b 0))] := hl
  obtain ⟨H, hHe⟩ : ∃ H : Heap, H = s.heap := ⟨_, rfl⟩
  obtain ⟨locs, hLe⟩ : ∃ locs : List Loc, locs = [] := ⟨_, rfl⟩
  have hP : va_P E.1 vwCl (wX5AI16 E a σ b τ) H := by rw [hHe]; exact hP
  have hS : va_S A s.heap H locs := by rw [hHe, hLe]; exact hS
  rw [← hLe, show W p l e rm_X5_findBestGain s m ([.ref (a 0), .int p1, .ref (b 0)] : List Value).toArray below meth c s.heap locs 0 0 = W p l e rm_X5_findBestGain s m ([.ref (a 0), .int p1, .ref (b 0)] : List Value).toArray below meth c H locs 0 0 from by rw [hHe]]
  refine lv_aload_n hx hb dX5_findBestGain_0 rfl (lv_at hl 0 rfl) ?_
  refine r_get X hP 0 (wX5AI16_g0_0 _ _ _ _ _) rfl inc_X5 3 (by decide) fl_X5_24 rfl dX5_findBestGain_1 ?_
  refine lv_iconst (v := 0) hx hb dX5_findBestGain_4 (by decide) ?_
  refine r_aldq (z := 0) X hP 3 3 (wX5AI16_g0_3 _ _ _ _ _) rfl rfl (vin_d rfl) (v := a 4) rfl dX5_findBestGain_5 ?_
  refine lv_iload_n hx hb dX5_findBestGain_6 rfl (lv_at hl 1 rfl) ?_
  refine lv_aload_n hx hb dX5_findBestGain_7 rfl (lv_at hl 2 rfl) ?_
  obtain ⟨z1, hz1, hf⟩ := obd hf
  refine cV_roI X (As := [.int p1, .ref (b 0)]) (rest := []) (c_X3_gainOf l E (sg_off a 4) (sg_off σ 4) b τ p1 hz1) pv_X3_gainOf ml_X5_55 ⟨rfl, rfl⟩ ⟨(Nat.le_of_ble_eq_true rfl), (Nat.le_of_ble_eq_true rfl)⟩ hP hD hS (wX5AI16_b_0_4_1_0_X3AI16 _ _ _ _ _) rfl (wX3AI16_g0_0 _ _ _ _ _) rfl rfl hl.1 rfl (Nat.le_of_ble_eq_true rfl) dX5_findBestGain_8 ⟨Nat.le_refl _, Nat.le_refl _⟩ (fun H locs hP hS => ?_)
  refine lv_istore_n (lv' := [(3, .int z1), (0, .ref (a 0)), (1, .int p1), (2, .ref (b 0))]) hx hb dX5_findBestGain_11 rfl hl (by decide) rfl (fun ls hl => ?_)
  refine lv_iconst (v := 1) hx hb dX5_findBestGain_12 (by decide) ?_
  refine lv_istore (lv' := [(4, .int 1), (3, .int z1), (0, .ref (a 0)), (1, .int p1), (2, .ref (b 0))]) hx hb dX5_findBestGain_13 hl (by decide) rfl (fun ls hl => ?_)
  have L5 := lc3_ind (o := out) (step := (s_X5_findBestGain_15 τ p1)) (fun x2 x3 g4 => ∀ (H : Heap) (locs : List Loc) (ls : Array Slot), va_P E.1 vwCl (wX5AI16 E a g4 b τ) H → va_D A (wX5AI16 E a g4 b τ) → va_S A s.heap H locs → lv_has ls 7 [(0, .ref (a 0)), (1, .int p1), (2, .ref (b 0)), (3, .int x2), (4, .int x3)] → W p l e rm_X5_findBestGain s m ([.ref (a 0), .int p1, .ref (b 0)] : List Value).toArray below meth c H locs 0 0 (MQ below (va_Qi (fun x (_ : Unit) => x = out.1) (fun _ t => QW E (wX5AI16 E a out.2 b τ) t) A) ([.ref (a 0), .int p1, .ref (b 0)] : List Value).toArray s 0 0 A) (F0 m 15 ls [])) (fun x2 x3 g4 k5 ih5 hf H locs ls hP hD hS hl => by
    refine lv_iload hx hb dX5_findBestGain_15 (lv_at hl 4 rfl) ?_
    refine lv_iconst (v := 2) hx hb dX5_findBestGain_17 (by decide) ?_
    refine lv_icmp_gt (tgt := 91) hx hb dX5_findBestGain_18 (by decide) (fun c6 => ?_) (fun c6 => ?_)
    · have hf := (if_pos c6).symm.trans hf
      refine lv_iload_n hx hb dX5_findBestGain_91 rfl (lv_at hl 3 rfl) ?_
      have ho := Option.some.inj hf
      have hv : x2 = out.1 := by rw [← ho]
      have hw := congrArg (fun o : Int32 × Sg => (wX5AI16 E a o.2 b τ)) ho
      exact r_iret X hr hP hS hv hw dX5_findBestGain_92
    · have hf := (if_neg c6).symm.trans hf
      refine lv_iconst (v := 0) hx hb dX5_findBestGain_21 (by decide) ?_
      refine lv_istore (lv' := [(5, .int 0), (0, .ref (a 0)), (1, .int p1), (2, .ref (b 0)), (3, .int x2), (4, .int x3)]) hx hb dX5_findBestGain_22 hl (by decide) rfl (fun ls hl => ?_)
      have L10 := lc3_ind (o := out) (step := (s_X5_findBestGain_24 τ p1 x3 k5)) (fun x7 x8 g9 => ∀ (H : Heap) (locs : List Loc) (ls : Array Slot), va_P E.1 vwCl (wX5AI16 E a g9 b τ) H → va_D A (wX5AI16 E a g9 b τ) → va_S A s.heap H locs → lv_has ls 7 [(0, .ref (a 0)), (1, .int p1), (2, .ref (b 0)), (3, .int x7), (4, .int x3), (5, .int x8)] → W p l e rm_X5_findBestGain s m ([.ref (a 0), .int p1, .ref (b 0)] : List Value).toArray below meth c H locs 0 0 (MQ below (va_Qi (fun x (_ : Unit) => x = out.1) (fun _ t => QW E (wX5AI16 E a out.2 b τ) t) A) ([.ref (a 0), .int p1, .ref (b 0)] : List Value).toArray s 0 0 A) (F0 m 24 ls [])) (fun x7 x8 g9 k10 ih10 hf H locs ls hP hD hS hl => by
        refine lv_iload hx hb dX5_findBestGain_24 (lv_at hl 5 rfl) ?_
        refine va_gets hx hb X.2.2.1.2.2.1 hS X.1.2.2.2.1 (X.1.2.2.2.2 _ fl_X5_41) (fun _ h9 => h9) dX5_findBestGain_26 ?_
        refine lv_iload hx hb dX5_findBestGain_29 (lv_at hl 4 rfl) ?_
        obtain ⟨h11, hf⟩ := chk_in hf
        refine va_ti hx hb X.2.2.1.2.2.2.1 hS h11 rfl dX5_findBestGain_31 ?_
        refine lv_icmp_ge (tgt := 85) hx hb dX5_findBestGain_32 (by decide) (fun c12 => ?_) (fun c12 => ?_)
        · have hf := (if_pos c12).symm.trans hf
          refine lv_iinc (v := (x3 + 1)) (lv' := [(4, .int (x3 + 1)), (0, .ref (a 0)), (1, .int p1), (2, .ref (b 0)), (3, .int x7), (5, .int x8)]) hx hb dX5_findBestGain_85 hl (k := 4) rfl rfl (by decide) rfl (fun ls hl => ?_)
          refine lv_goto (tgt := 15) hx hb dX5_findBestGain_88 (by decide) ?_
          exact ih5 x7 (x3 + 1) g9 hf H locs ls hP hD hS (lv_sub hl [1, 2, 3, 4, 0] rfl)
        · have hf := (if_neg c12).symm.trans hf
          refine lv_aload_n hx hb dX5_findBestGain_35 rfl (lv_at hl 0 rfl) ?_
          refine lv_iload hx hb dX5_findBestGain_36 (lv_at hl 4 rfl) ?_
          refine lv_iload hx hb dX5_findBestGain_38 (lv_at hl 5 rfl) ?_
          obtain ⟨z13, hz13, hf⟩ := obd hf
          refine cV_putI X (As := [.int x3, .int x8]) (rest := []) (c_X5_lay l E a g9 x3 x8 hz13) pv_X5_lay ml_X5_44 ⟨rfl, rfl⟩ ⟨(Nat.le_of_ble_eq_true rfl), (Nat.le_of_ble_eq_true rfl)⟩ hP hD hS (wX5AI16_b_0_0_X5 _ _ _ _ _) rfl (wX5_g0_0 _ _ _) rfl (wX5AI16_p_0_0_X5 _ _ _ _ _ _) rfl hl.1 rfl (Nat.le_of_ble_eq_true rfl) dX5_findBestGain_40 ⟨Nat.le_refl _, Nat.le_refl _⟩ (fun H locs hP hD hS => ?_)
          have J1 : ∀ (x14 : Int32), j_X5_findBestGain_1 x3 x7 x8 k10 z13 x14 = some out → ∀ (H : Heap) (locs : List Loc) (ls : Array Slot), va_P E.1 vwCl (wX5AI16 E a z13.2 b τ) H → va_D A (wX5AI16 E a z13.2 b τ) → va_S A s.heap H locs → lv_has ls 7 [(0, .ref (a 0)), (1, .int p1), (2, .ref (b 0)), (3, .int x7), (4, .int x3), (5, .int x8)] → W p l e rm_X5_findBestGain s m ([.ref (a 0), .int p1, .ref (b 0)] : List Value).toArray below meth c H locs 0 0 (MQ below (va_Qi (fun x (_ : Unit) => x = out.1) (fun _ t => QW E (wX5AI16 E a out.2 b τ) t) A) ([.ref (a 0), .int p1, .ref (b 0)] : List Value).toArray s 0 0 A) (F0 m 62 ls [.int x14]) := by
            intro x14 hf H locs ls hP hD hS hl
            refine lv_istore (lv' := [(6, .int x14), (0, .ref (a 0)), (1, .int p1), (2, .ref (b 0)), (3, .int x7), (4, .int x3), (5, .int x8)]) hx hb dX5_findBestGain_62 hl (by decide) rfl (fun ls hl => ?_)
            refine lv_iload hx hb dX5_findBestGain_64 (lv_at hl 0 rfl) ?_
            refine lv_iload_n hx hb dX5_findBestGain_66 rfl (lv_at hl 4 rfl) ?_
            refine lv_icmp_le (tgt := 79) hx hb dX5_findBestGain_67 (by decide) (fun c15 => ?_) (fun c15 => ?_)
            · have hf := (if_pos c15).symm.trans hf
              refine lv_iinc (v := (x8 + 1)) (lv' := [(5, .int (x8 + 1)), (6, .int x14), (0, .ref (a 0)), (1, .int p1), (2, .ref (b 0)), (3, .int x7), (4, .int x3)]) hx hb dX5_findBestGain_79 hl (k := 6) rfl rfl (by decide) rfl (fun ls hl => ?_)
              refine lv_goto (tgt := 24) hx hb dX5_findBestGain_82 (by decide) ?_
              exact ih10 x7 (x8 + 1) z13.2 hf H locs ls hP hD hS (lv_sub hl [2, 3, 4, 5, 6, 0] rfl)
            · have hf := (if_neg c15).symm.trans hf
              refine lv_iload hx hb dX5_findBestGain_70 (lv_at hl 0 rfl) ?_
              refine lv_istore_n (lv' := [(3, .int x14), (6, .int x14), (0, .ref (a 0)), (1, .int p1), (2, .ref (b 0)), (4, .int x3), (5, .int x8)]) hx hb dX5_findBestGain_72 rfl hl (by decide) rfl (fun ls hl => ?_)
              refine lv_aload_n hx hb dX5_findBestGain_73 rfl (lv_at hl 2 rfl) ?_
              refine lv_iload hx hb dX5_findBestGain_74 (lv_at hl 5 rfl) ?_
              obtain ⟨z16, hz16, hf⟩ := obd hf
              refine cV_putV X (As := [.int x3]) (rest := []) (c_X5_noteFound l E a z13.2 x3 hz16) pv_X5_noteFound ml_X5_51 ⟨rfl, rfl⟩ ⟨(Nat.le_of_ble_eq_true rfl), (Nat.le_of_ble_eq_true rfl)⟩ hP hD hS (wX5AI16_b_0_0_X5 _ _ _ _ _) rfl (wX5_g0_0 _ _ _) rfl (wX5AI16_p_0_0_X5 _ _ _ _ _ _) rfl hl.1 rfl (Nat.le_of_ble_eq_true rfl) dX5_findBestGain_76 ⟨Nat.le_refl _, Nat.le_refl _⟩ (fun H locs hP hD hS => ?_)
              refine lv_iinc (v := (x8 + 1)) (lv' := [(5, .int (x8 + 1)), (3, .int x14), (6, .int x14), (0, .ref (a 0)), (1, .int p1), (2, .ref (b 0)), (4, .int x3)]) hx hb dX5_findBestGain_79 hl (k := 6) rfl rfl (by decide) rfl (fun ls hl => ?_)
              refine lv_goto (tgt := 24) hx hb dX5_findBestGain_82 (by decide) ?_
              exact ih10 x14 (x8 + 1) z16 hf H locs ls hP hD hS (lv_sub hl [3, 4, 5, 1, 6, 0] rfl)
          refine lv_if_eq (tgt := 61) hx hb dX5_findBestGain_43 (by decide) (fun c17 => ?_) (fun c17 => ?_)
          · have hf := (if_pos c17).symm.trans hf
            refine lv_iconst (v := 0) hx hb dX5_findBestGain_61 (by decide) ?_
            exact J1 0 hf H locs ls hP hD hS (lv_sub hl [0, 1, 2, 3, 4, 5] rfl)
          · have hf := (if_neg c17).symm.trans hf
            refine lv_aload_n hx hb dX5_findBestGain_46 rfl (lv_at hl 0 rfl) ?_
            refine r_get X hP 0 (wX5AI16_g0_0 _ _ _ _ _) rfl inc_X5 3 (by decide) fl_X5_24 rfl dX5_findBestGain_47 ?_
            refine lv_iload hx hb dX5_findBestGain_50 (lv_at hl 4 rfl) ?_
            by_cases c18 : x3 = 0
            · have hf := (if_pos c18).symm.trans hf
              refine r_aldq X hP 3 3 (wX5AI16_g0_3 _ _ _ _ _) rfl c18 (vin_d rfl) (v := a 4) rfl dX5_findBestGain_52 ?_
              refine lv_iload_n hx hb dX5_findBestGain_53 rfl (lv_at hl 1 rfl) ?_
              refine lv_aload_n hx hb dX5_findBestGain_54 rfl (lv_at hl 2 rfl) ?_
              obtain ⟨z19, hz19, hf⟩ := obd hf
              refine cV_roI X (As := [.int p1, .ref (b 0)]) (rest := []) (c_X3_gainOf l E (sg_off a 4) (sg_off z13.2 4) b τ p1 hz19) pv_X3_gainOf ml_X5_55 ⟨rfl, rfl⟩ ⟨(Nat.le_of_ble_eq_true rfl), (Nat.le_of_ble_eq_true rfl)⟩ hP hD hS (wX5AI16_b_0_4_1_0_X3AI16 _ _ _ _ _) rfl (wX3AI16_g0_0 _ _ _ _ _) rfl rfl hl.1 rfl (Nat.le_of_ble_eq_true rfl) dX5_findBestGain_55 ⟨Nat.le_refl _, Nat.le_refl _⟩ (fun H locs hP hS => ?_)
              refine lv_goto (tgt := 62) hx hb dX5_findBestGain_58 (by decide) ?_
              exact J1 z19 hf H locs ls hP hD hS (lv_sub hl [0, 1, 2, 3, 4, 5] rfl)
            · have hf := (if_neg c18).symm.trans hf
              by_cases c20 : x3 = 1
              · have hf := (if_pos c20).symm.trans hf
                refine r_aldq X hP 3 3 (wX5AI16_g0_3 _ _ _ _ _) rfl c20 (vin_d rfl) (v := a 10) rfl dX5_findBestGain_52 ?_
                refine lv_iload_n hx hb dX5_findBestGain_53 rfl (lv_at hl 1 rfl) ?_
                refine lv_aload_n hx hb dX5_findBestGain_54 rfl (lv_at hl 2 rfl) ?_
                obtain ⟨z21, hz21, hf⟩ := obd hf
                refine cV_roI X (As := [.int p1, .ref (b 0)]) (rest := []) (c_X3_gainOf l E (sg_off a 10) (sg_off z13.2 10) b τ p1 hz21) pv_X3_gainOf ml_X5_55 ⟨rfl, rfl⟩ ⟨(Nat.le_of_ble_eq_true rfl), (Nat.le_of_ble_eq_true rfl)⟩ hP hD hS (wX5AI16_b_0_10_1_0_X3AI16 _ _ _ _ _) rfl (wX3AI16_g0_0 _ _ _ _ _) rfl rfl hl.1 rfl (Nat.le_of_ble_eq_true rfl) dX5_findBestGain_55 ⟨Nat.le_refl _, Nat.le_refl _⟩ (fun H locs hP hS => ?_)
                refine lv_goto (tgt := 62) hx hb dX5_findBestGain_58 (by decide) ?_
                exact J1 z21 hf H locs ls hP hD hS (lv_sub hl [0, 1, 2, 3, 4, 5] rfl)
              · have hf := (if_neg c20).symm.trans hf
                by_cases c22 : x3 = 2
                · have hf := (if_pos c22).symm.trans hf
                  refine r_aldq X hP 3 3 (wX5AI16_g0_3 _ _ _ _ _) rfl c22 (vin_d rfl) (v := a 16) rfl dX5_findBestGain_52 ?_
                  refine lv_iload_n hx hb dX5_findBestGain_53 rfl (lv_at hl 1 rfl) ?_
                  refine lv_aload_n hx hb dX5_findBestGain_54 rfl (lv_at hl 2 rfl) ?_
                  obtain ⟨z23, hz23, hf⟩ := obd hf
                  refine cV_roI X (As := [.int p1, .ref (b 0)]) (rest := []) (c_X3_gainOf l E (sg_off a 16) (sg_off z13.2 16) b τ p1 hz23) pv_X3_gainOf ml_X5_55 ⟨rfl, rfl⟩ ⟨(Nat.le_of_ble_eq_true rfl), (Nat.le_of_ble_eq_true rfl)⟩ hP hD hS (wX5AI16_b_0_16_1_0_X3AI16 _ _ _ _ _) rfl (wX3AI16_g0_0 _ _ _ _ _) rfl rfl hl.1 rfl (Nat.le_of_ble_eq_true rfl) dX5_findBestGain_55 ⟨Nat.le_refl _, Nat.le_refl _⟩ (fun H locs hP hS => ?_)
                  refine lv_goto (tgt := 62) hx hb dX5_findBestGain_58 (by decide) ?_
                  exact J1 z23 hf H locs ls hP hD hS (lv_sub hl [0, 1, 2, 3, 4, 5] rfl)
                · have hf := (if_neg c22).symm.trans hf
                  exact ob_none hf)
      exact L10 1000 x2 0 g4 hf H locs ls hP hD hS (lv_sub hl [1, 2, 3, 4, 5, 0] rfl))
  exact L5 1000 z1 1 σ hf H locs ls hP hD hS (lv_sub hl [2, 3, 4, 1, 0] rfl)
def rm_X5_findMeeting : Room := { frames := 5, cells := 0, slots := 0, locals := 121 }
theorem pv_X5_findMeeting : PkV RX5 yX5_findMeeting cX5_findMeeting 6 (some .boolean) 2 := ⟨im_X5_findMeeting, se_X5_findMeeting, ini_X5, cd_X5_findMeeting, by decide +kernel⟩
set_option maxHeartbeats 4000000 in
set_option maxRecDepth 100000 in
theorem c_X5_findMeeting (l : Launch) (E : Ev) (a : Nat → Nat) (σ : Sg) (p1 : Int32) (p2 : Int32) {out : Int32 × Sg} (hf : f_X5_findMeeting σ p1 p2 = some out) : MtI l yX5_findMeeting (wl yX5_findMeeting cX5_findMeeting 6 (some .boolean)) rm_X5_findMeeting E [.ref (a 0), .int p1, .int p2] (wX5 E a σ) out.1 (wX5 E a out.2) := by
  refine mt_of (QQ := (fun A => va_Qi (fun x (_ : Unit) => x = out.1) (fun _ t => QW E (wX5 E a out.2) t) A)) (by decide) (Nat.le_of_ble_eq_true rfl) (fun p e s m below meth c A ls X hr hP hD hS hl => ?_)
  have hx := X.1.1
  have hb := X.1.2.1
  have hl : lv_has ls 6 [(0, .ref (a 0)), (1, .int p1), (2, .int p2)] := hl
  obtain ⟨H, hHe⟩ : ∃ H : Heap, H = s.heap := ⟨_, rfl⟩
  obtain ⟨locs, hLe⟩ : ∃ locs : List Loc, locs = [] := ⟨_, rfl⟩
  have hP : va_P E.1 vwCl (wX5 E a σ) H := by rw [hHe]; exact hP
  have hS : va_S A s.heap H locs := by rw [hHe, hLe]; exact hS
  rw [← hLe, show W p l e rm_X5_findMeeting s m ([.ref (a 0), .int p1, .int p2] : List Value).toArray below meth c s.heap locs 0 0 = W p l e rm_X5_findMeeting s m ([.ref (a 0), .int p1, .int p2] : List Value).toArray below meth c H locs 0 0 from by rw [hHe]]
  refine lv_aload_n hx hb dX5_findMeeting_0 rfl (lv_at hl 0 rfl) ?_
  refine r_get X hP 0 (wX5_g0_0 _ _ _) rfl inc_X5 3 (by decide) fl_X5_24 rfl dX5_findMeeting_1 ?_
  refine lv_iconst (v := 0) hx hb dX5_findMeeting_4 (by decide) ?_
  refine r_aldq (z := 0) X hP 3 3 (wX5_g0_3 _ _ _) rfl rfl (vin_d rfl) (v := a 4) rfl dX5_findMeeting_5 ?_
  refine lv_iload_n hx hb dX5_findMeeting_6 rfl (lv_at hl 1 rfl) ?_
  refine lv_iload_n hx hb dX5_findMeeting_7 rfl (lv_at hl 2 rfl) ?_
  obtain ⟨z1, hz1, hf⟩ := obd hf
  refine cV_roI X (As := [.int p1, .int p2]) (rest := []) (c_X3_touching l E (sg_off a 4) (sg_off σ 4) p1 p2 hz1) pv_X3_touching ml_X5_37 ⟨rfl, rfl⟩ ⟨(Nat.le_of_ble_eq_true rfl), (Nat.le_of_ble_eq_true rfl)⟩ hP hD hS (wX5_b_0_4_X3 _ _ _) rfl (wX3_g0_0 _ _ _) rfl rfl hl.1 rfl (Nat.le_of_ble_eq_true rfl) dX5_findMeeting_8 ⟨Nat.le_refl _, Nat.le_refl _⟩ (fun H locs hP hS => ?_)
  refine lv_iconst (v := 1) hx hb dX5_findMeeting_11 (by decide) ?_
  refine lv_icmp_ne (tgt := 17) hx hb dX5_findMeeting_12 (by decide) (fun c2 => ?_) (fun c2 => ?_)
  · have hf := (if_neg c2).symm.trans hf
    refine lv_iconst (v := 0) hx hb dX5_findMeeting_17 (by decide) ?_
    refine lv_istore_n (lv' := [(3, .int 0), (0, .ref (a 0)), (1, .int p1), (2, .int p2)]) hx hb dX5_findMeeting_18 rfl hl (by decide) rfl (fun ls hl => ?_)
    have J1 : ∀ (x3 : Int32) (x4 : Int32) (g5 : Sg), j_X5_findMeeting_1 x3 x4 g5 = some out → ∀ (H : Heap) (locs : List Loc) (ls : Array Slot), va_P E.1 vwCl (wX5 E a g5) H → va_D A (wX5 E a g5) → va_S A s.heap H locs → lv_has ls 6 [(0, .ref (a 0)), (3, .int x3), (5, .int x4)] → W p l e rm_X5_findMeeting s m ([.ref (a 0), .int p1, .int p2] : List Value).toArray below meth c H locs 0 0 (MQ below (va_Qi (fun x (_ : Unit) => x = out.1) (fun _ t => QW E (wX5 E a out.2) t) A) ([.ref (a 0), .int p1, .int p2] : List Value).toArray s 0 0 A) (F0 m 72 ls []) := by
      intro x3 x4 g5 hf H locs ls hP hD hS hl
      refine lv_aload_n hx hb dX5_findMeeting_72 rfl (lv_at hl 0 rfl) ?_
      refine lv_iload_n hx hb dX5_findMeeting_73 rfl (lv_at hl 1 rfl) ?_
      obtain ⟨z6, hz6, hf⟩ := obd hf
      refine cV_allV X (As := [.int x3]) (rest := []) (c_X5_noteFound l E a g5 x3 hz6) pv_X5_noteFound ml_X5_51 ⟨rfl, rfl⟩ ⟨(Nat.le_of_ble_eq_true rfl), (Nat.le_of_ble_eq_true rfl)⟩ hP hD hS (wX5_g0_0 _ _ _) rfl (wX5_adr _ _ _ _) rfl hl.1 rfl (Nat.le_of_ble_eq_true rfl) dX5_findMeeting_74 ⟨Nat.le_refl _, Nat.le_refl _⟩ (fun H locs hP hD hS => ?_)
      refine lv_aload_n hx hb dX5_findMeeting_77 rfl (lv_at hl 0 rfl) ?_
      refine r_get X hP 0 (wX5_g0_0 _ _ _) rfl inc_X5 1 (by decide) fl_X5_15 rfl dX5_findMeeting_78 ?_
      refine lv_iload_n hx hb dX5_findMeeting_81 rfl (lv_at hl 1 rfl) ?_
      refine lv_iload hx hb dX5_findMeeting_82 (lv_at hl 2 rfl) ?_
      obtain ⟨h7, hf⟩ := chk_in hf
      refine r_iast X hP hD hS 1 (wX5_g0_1 _ _ _) h7 (wX5_t0_1 _ _ _ _ _) dX5_findMeeting_84 (fun H locs hP hD hS => ?_)
      refine lv_aload_n hx hb dX5_findMeeting_85 rfl (lv_at hl 0 rfl) ?_
      refine lv_iload_n hx hb dX5_findMeeting_86 rfl (lv_at hl 1 rfl) ?_
      refine lv_iconst (v := 1) hx hb dX5_findMeeting_87 (by decide) ?_
      refine lv_iadd hx hb dX5_findMeeting_88 ?_
      refine r_put X hP hD hS 0 (wX5_g0_0 _ _ _) rfl inc_X5 tyX5 tyX5_ok nmX5 0 (by decide) fl_X5_9 rfl (ty := .int) rfl rfl rfl (Nat.le_of_ble_eq_true rfl) (wX5_s0_0_0 _ _ _ _) dX5_findMeeting_89 (fun H locs hP hD hS => ?_)
      refine lv_iconst (v := 1) hx hb dX5_findMeeting_92 (by decide) ?_
      have ho := Option.some.inj hf
      have hv : 1 = out.1 := by rw [← ho]
      have hw := congrArg (fun o : Int32 × Sg => (wX5 E a o.2)) ho
      exact r_zret X hr hP hS rfl hv hw dX5_findMeeting_93
    have L11 := lc2_ind (o := out) (step := (s_X5_findMeeting_19 p1 p2 j_X5_findMeeting_1)) (fun x8 g9 => ∀ (H : Heap) (locs : List Loc) (ls : Array Slot), va_P E.1 vwCl (wX5 E a g9) H → va_D A (wX5 E a g9) → va_S A s.heap H locs → lv_has ls 6 [(0, .ref (a 0)), (1, .int p1), (2, .int p2), (3, .int x8)] → W p l e rm_X5_findMeeting s m ([.ref (a 0), .int p1, .int p2] : List Value).toArray below meth c H locs 0 0 (MQ below (va_Qi (fun x (_ : Unit) => x = out.1) (fun _ t => QW E (wX5 E a out.2) t) A) ([.ref (a 0), .int p1, .int p2] : List Value).toArray s 0 0 A) (F0 m 19 ls [])) (fun x8 g9 k10 ih11 hf H locs ls hP hD hS hl => by
      refine lv_iload_n hx hb dX5_findMeeting_19 rfl (lv_at hl 3 rfl) ?_
      refine lv_iconst (v := 2) hx hb dX5_findMeeting_20 (by decide) ?_
      refine lv_icmp_gt (tgt := 106) hx hb dX5_findMeeting_21 (by decide) (fun c12 => ?_) (fun c12 => ?_)
      · have hf := (if_pos c12).symm.trans hf
        refine lv_iconst (v := 0) hx hb dX5_findMeeting_106 (by decide) ?_
        have ho := Option.some.inj hf
        have hv : 0 = out.1 := by rw [← ho]
        have hw := congrArg (fun o : Int32 × Sg => (wX5 E a o.2)) ho
        exact r_zret X hr hP hS rfl hv hw dX5_findMeeting_107
      · have hf := (if_neg c12).symm.trans hf
        refine lv_iconst (v := 0) hx hb dX5_findMeeting_24 (by decide) ?_
        refine lv_istore (lv' := [(4, .int 0), (0, .ref (a 0)), (1, .int p1), (2, .int p2), (3, .int x8)]) hx hb dX5_findMeeting_25 hl (by decide) rfl (fun ls hl => ?_)
        have L15 := lc2_ind (o := out) (step := (s_X5_findMeeting_27 p1 p2 x8 k10 j_X5_findMeeting_1)) (fun x13 g14 => ∀ (H : Heap) (locs : List Loc) (ls : Array Slot), va_P E.1 vwCl (wX5 E a g14) H → va_D A (wX5 E a g14) → va_S A s.heap H locs → lv_has ls 6 [(0, .ref (a 0)), (1, .int p1), (2, .int p2), (3, .int x8), (4, .int x13)] → W p l e rm_X5_findMeeting s m ([.ref (a 0), .int p1, .int p2] : List Value).toArray below meth c H locs 0 0 (MQ below (va_Qi (fun x (_ : Unit) => x = out.1) (fun _ t => QW E (wX5 E a out.2) t) A) ([.ref (a 0), .int p1, .int p2] : List Value).toArray s 0 0 A) (F0 m 27 ls [])) (fun x13 g14 k15 ih15 hf H locs ls hP hD hS hl => by
          refine lv_iload hx hb dX5_findMeeting_27 (lv_at hl 4 rfl) ?_
          refine va_gets hx hb X.2.2.1.2.2.1 hS X.1.2.2.2.1 (X.1.2.2.2.2 _ fl_X5_41) (fun _ h9 => h9) dX5_findMeeting_29 ?_
          refine lv_iload_n hx hb dX5_findMeeting_32 rfl (lv_at hl 3 rfl) ?_
          obtain ⟨h16, hf⟩ := chk_in hf
          refine va_ti hx hb X.2.2.1.2.2.2.1 hS h16 rfl dX5_findMeeting_33 ?_
          refine lv_icmp_ge (tgt := 100) hx hb dX5_findMeeting_34 (by decide) (fun c17 => ?_) (fun c17 => ?_)
          · have hf := (if_pos c17).symm.trans hf
            refine lv_iinc (v := (x8 + 1)) (lv' := [(3, .int (x8 + 1)), (0, .ref (a 0)), (1, .int p1), (2, .int p2), (4, .int x13)]) hx hb dX5_findMeeting_100 hl (k := 3) rfl rfl (by decide) rfl (fun ls hl => ?_)
            refine lv_goto (tgt := 19) hx hb dX5_findMeeting_103 (by decide) ?_
            exact ih11 (x8 + 1) g14 hf H locs ls hP hD hS (lv_sub hl [1, 2, 3, 0] rfl)
          · have hf := (if_neg c17).symm.trans hf
            refine lv_aload_n hx hb dX5_findMeeting_37 rfl (lv_at hl 0 rfl) ?_
            refine lv_iload_n hx hb dX5_findMeeting_38 rfl (lv_at hl 3 rfl) ?_
            refine lv_iload hx hb dX5_findMeeting_39 (lv_at hl 4 rfl) ?_
            obtain ⟨z18, hz18, hf⟩ := obd hf
            refine cV_allI X (As := [.int x8, .int x13]) (rest := []) (c_X5_lay l E a g14 x8 x13 hz18) pv_X5_lay ml_X5_44 ⟨rfl, rfl⟩ ⟨(Nat.le_of_ble_eq_true rfl), (Nat.le_of_ble_eq_true rfl)⟩ hP hD hS (wX5_g0_0 _ _ _) rfl (wX5_adr _ _ _ _) rfl hl.1 rfl (Nat.le_of_ble_eq_true rfl) dX5_findMeeting_41 ⟨Nat.le_refl _, Nat.le_refl _⟩ (fun H locs hP hD hS => ?_)
            have J2 : ∀ (x19 : Int32), j_X5_findMeeting_2 x8 j_X5_findMeeting_1 x13 k15 z18 x19 = some out → ∀ (H : Heap) (locs : List Loc) (ls : Array Slot), va_P E.1 vwCl (wX5 E a z18.2) H → va_D A (wX5 E a z18.2) → va_S A s.heap H locs → lv_has ls 6 [(0, .ref (a 0)), (1, .int p1), (2, .int p2), (3, .int x8), (4, .int x13)] → W p l e rm_X5_findMeeting s m ([.ref (a 0), .int p1, .int p2] : List Value).toArray below meth c H locs 0 0 (MQ below (va_Qi (fun x (_ : Unit) => x = out.1) (fun _ t => QW E (wX5 E a out.2) t) A) ([.ref (a 0), .int p1, .int p2] : List Value).toArray s 0 0 A) (F0 m 63 ls [.int x19]) := by
              intro x19 hf H locs ls hP hD hS hl
              refine lv_istore (lv' := [(5, .int x19), (0, .ref (a 0)), (1, .int p1), (2, .int p2), (3, .int x8), (4, .int x13)]) hx hb dX5_findMeeting_63 hl (by decide) rfl (fun ls hl => ?_)
              refine lv_iload hx hb dX5_findMeeting_65 (lv_at hl 0 rfl) ?_
              refine lv_bipush (v := (-9)) hx hb dX5_findMeeting_67 (by decide) ?_
              refine lv_icmp_eq (tgt := 94) hx hb dX5_findMeeting_69 (by decide) (fun c20 => ?_) (fun c20 => ?_)
              · have hf := (if_pos c20).symm.trans hf
                refine lv_iinc (v := (x13 + 1)) (lv' := [(4, .int (x13 + 1)), (5, .int x19), (0, .ref (a 0)), (1, .int p1), (2, .int p2), (3, .int x8)]) hx hb dX5_findMeeting_94 hl (k := 5) rfl rfl (by decide) rfl (fun ls hl => ?_)
                refine lv_goto (tgt := 27) hx hb dX5_findMeeting_97 (by decide) ?_
                exact ih15 (x13 + 1) z18.2 hf H locs ls hP hD hS (lv_sub hl [2, 3, 4, 5, 0] rfl)
              · have hf := (if_neg c20).symm.trans hf
                exact J1 x8 x19 z18.2 hf H locs ls hP hD hS (lv_sub hl [1, 4, 0] rfl)
            refine lv_if_eq (tgt := 61) hx hb dX5_findMeeting_44 (by decide) (fun c21 => ?_) (fun c21 => ?_)
            · have hf := (if_pos c21).symm.trans hf
              refine lv_bipush (v := (-9)) hx hb dX5_findMeeting_61 (by decide) ?_
              exact J2 (-9) hf H locs ls hP hD hS (lv_sub hl [0, 1, 2, 3, 4] rfl)
            · have hf := (if_neg c21).symm.trans hf
              refine lv_aload_n hx hb dX5_findMeeting_47 rfl (lv_at hl 0 rfl) ?_
              refine r_get X hP 0 (wX5_g0_0 _ _ _) rfl inc_X5 3 (by decide) fl_X5_24 rfl dX5_findMeeting_48 ?_
              refine lv_iload_n hx hb dX5_findMeeting_51 rfl (lv_at hl 3 rfl) ?_
              by_cases c22 : x8 = 0
              · have hf := (if_pos c22).symm.trans hf
                refine r_aldq X hP 3 3 (wX5_g0_3 _ _ _) rfl c22 (vin_d rfl) (v := a 4) rfl dX5_findMeeting_52 ?_
                refine lv_iload_n hx hb dX5_findMeeting_53 rfl (lv_at hl 1 rfl) ?_
                refine lv_iload_n hx hb dX5_findMeeting_54 rfl (lv_at hl 2 rfl) ?_
                obtain ⟨z23, hz23, hf⟩ := obd hf
                refine cV_roI X (As := [.int p1, .int p2]) (rest := []) (c_X3_meetingFold l E (sg_off a 4) (sg_off z18.2 4) p1 p2 hz23) pv_X3_meetingFold ml_X5_48 ⟨rfl, rfl⟩ ⟨(Nat.le_of_ble_eq_true rfl), (Nat.le_of_ble_eq_true rfl)⟩ hP hD hS (wX5_b_0_4_X3 _ _ _) rfl (wX3_g0_0 _ _ _) rfl rfl hl.1 rfl (Nat.le_of_ble_eq_true rfl) dX5_findMeeting_55 ⟨Nat.le_refl _, Nat.le_refl _⟩ (fun H locs hP hS => ?_)
                refine lv_goto (tgt := 63) hx hb dX5_findMeeting_58 (by decide) ?_
                exact J2 z23 hf H locs ls hP hD hS (lv_sub hl [0, 1, 2, 3, 4] rfl)
              · have hf := (if_neg c22).symm.trans hf
                by_cases c24 : x8 = 1
                · have hf := (if_pos c24).symm.trans hf
                  refine r_aldq X hP 3 3 (wX5_g0_3 _ _ _) rfl c24 (vin_d rfl) (v := a 10) rfl dX5_findMeeting_52 ?_
                  refine lv_iload_n hx hb dX5_findMeeting_53 rfl (lv_at hl 1 rfl) ?_
                  refine lv_iload_n hx hb dX5_findMeeting_54 rfl (lv_at hl 2 rfl) ?_
                  obtain ⟨z25, hz25, hf⟩ := obd hf
                  refine cV_roI X (As := [.int p1, .int p2]) (rest := []) (c_X3_meetingFold l E (sg_off a 10) (sg_off z18.2 10) p1 p2 hz25) pv_X3_meetingFold ml_X5_48 ⟨rfl, rfl⟩ ⟨(Nat.le_of_ble_eq_true rfl), (Nat.le_of_ble_eq_true rfl)⟩ hP hD hS (wX5_b_0_10_X3 _ _ _) rfl (wX3_g0_0 _ _ _) rfl rfl hl.1 rfl (Nat.le_of_ble_eq_true rfl) dX5_findMeeting_55 ⟨Nat.le_refl _, Nat.le_refl _⟩ (fun H locs hP hS => ?_)
                  refine lv_goto (tgt := 63) hx hb dX5_findMeeting_58 (by decide) ?_
                  exact J2 z25 hf H locs ls hP hD hS (lv_sub hl [0, 1, 2, 3, 4] rfl)
                · have hf := (if_neg c24).symm.trans hf
                  by_cases c26 : x8 = 2
                  · have hf := (if_pos c26).symm.trans hf
                    refine r_aldq X hP 3 3 (wX5_g0_3 _ _ _) rfl c26 (vin_d rfl) (v := a 16) rfl dX5_findMeeting_52 ?_
                    refine lv_iload_n hx hb dX5_findMeeting_53 rfl (lv_at hl 1 rfl) ?_
                    refine lv_iload_n hx hb dX5_findMeeting_54 rfl (lv_at hl 2 rfl) ?_
                    obtain ⟨z27, hz27, hf⟩ := obd hf
                    refine cV_roI X (As := [.int p1, .int p2]) (rest := []) (c_X3_meetingFold l E (sg_off a 16) (sg_off z18.2 16) p1 p2 hz27) pv_X3_meetingFold ml_X5_48 ⟨rfl, rfl⟩ ⟨(Nat.le_of_ble_eq_true rfl), (Nat.le_of_ble_eq_true rfl)⟩ hP hD hS (wX5_b_0_16_X3 _ _ _) rfl (wX3_g0_0 _ _ _) rfl rfl hl.1 rfl (Nat.le_of_ble_eq_true rfl) dX5_findMeeting_55 ⟨Nat.le_refl _, Nat.le_refl _⟩ (fun H locs hP hS => ?_)
                    refine lv_goto (tgt := 63) hx hb dX5_findMeeting_58 (by decide) ?_
                    exact J2 z27 hf H locs ls hP hD hS (lv_sub hl [0, 1, 2, 3, 4] rfl)
                  · have hf := (if_neg c26).symm.trans hf
                    exact ob_none hf)
        exact L15 1000 0 g9 hf H locs ls hP hD hS (lv_sub hl [1, 2, 3, 4, 0] rfl))
    exact L11 1000 0 σ hf H locs ls hP hD hS (lv_sub hl [1, 2, 3, 0] rfl)
  · have hf := (if_pos c2).symm.trans hf
    refine lv_iconst (v := 1) hx hb dX5_findMeeting_15 (by decide) ?_
    have ho := Option.some.inj hf
    have hv : 1 = out.1 := by rw [← ho]
    have hw := congrArg (fun o : Int32 × Sg => (wX5 E a o.2)) ho
    exact r_zret X hr hP hS rfl hv hw dX5_findMeeting_16
def rm_X5_foundFold : Room := { frames := 0, cells := 0, slots := 0, locals := 0 }
theorem pv_X5_foundFold : PkV RX5 yX5_foundFold cX5_foundFold 2 (some .int) 1 := ⟨im_X5_foundFold, se_X5_foundFold, ini_X5, cd_X5_foundFold, by decide +kernel⟩
set_option maxHeartbeats 4000000 in
set_option maxRecDepth 100000 in
theorem c_X5_foundFold (l : Launch) (E : Ev) (a : Nat → Nat) (σ : Sg) (p1 : Int32) {out : Int32} (hf : f_X5_foundFold σ p1 = some out) : MtI l yX5_foundFold (wl yX5_foundFold cX5_foundFold 2 (some .int)) rm_X5_foundFold E [.ref (a 0), .int p1] (wX5 E a σ) out (wX5 E a σ) := by
  refine mt_of (QQ := (fun A => va_Qi (fun x (_ : Unit) => x = out) (fun _ t => QW E (wX5 E a σ) t) A)) (by decide) (Nat.le_of_ble_eq_true rfl) (fun p e s m below meth c A ls X hr hP hD hS hl => ?_)
  have hx := X.1.1
  have hb := X.1.2.1
  have hl : lv_has ls 2 [(0, .ref (a 0)), (1, .int p1)] := hl
  obtain ⟨H, hHe⟩ : ∃ H : Heap, H = s.heap := ⟨_, rfl⟩
  obtain ⟨locs, hLe⟩ : ∃ locs : List Loc, locs = [] := ⟨_, rfl⟩
  have hP : va_P E.1 vwCl (wX5 E a σ) H := by rw [hHe]; exact hP
  have hS : va_S A s.heap H locs := by rw [hHe, hLe]; exact hS
  rw [← hLe, show W p l e rm_X5_foundFold s m ([.ref (a 0), .int p1] : List Value).toArray below meth c s.heap locs 0 0 = W p l e rm_X5_foundFold s m ([.ref (a 0), .int p1] : List Value).toArray below meth c H locs 0 0 from by rw [hHe]]
  refine lv_iload_n hx hb dX5_foundFold_0 rfl (lv_at hl 1 rfl) ?_
  refine lv_if_lt (tgt := 26) hx hb dX5_foundFold_1 (by decide) (fun c1 => ?_) (fun c1 => ?_)
  · have hf := (if_pos c1).symm.trans hf
    refine lv_bipush (v := (-5)) hx hb dX5_foundFold_26 (by decide) ?_
    have ho := Option.some.inj hf
    exact r_iret X hr hP hS ho rfl dX5_foundFold_28
  · have hf := (if_neg c1).symm.trans hf
    refine lv_iload_n hx hb dX5_foundFold_4 rfl (lv_at hl 1 rfl) ?_
    refine lv_aload_n hx hb dX5_foundFold_5 rfl (lv_at hl 0 rfl) ?_
    refine r_get X hP 0 (wX5_g0_0 _ _ _) rfl inc_X5 0 (by decide) fl_X5_9 rfl dX5_foundFold_6 ?_
    refine lv_icmp_ge (tgt := 26) hx hb dX5_foundFold_9 (by decide) (fun c2 => ?_) (fun c2 => ?_)
    · have hf := (if_pos c2).symm.trans hf
      refine lv_bipush (v := (-5)) hx hb dX5_foundFold_26 (by decide) ?_
      have ho := Option.some.inj hf
      exact r_iret X hr hP hS ho rfl dX5_foundFold_28
    · have hf := (if_neg c2).symm.trans hf
      refine lv_iload_n hx hb dX5_foundFold_12 rfl (lv_at hl 1 rfl) ?_
      refine lv_iconst (v := 2) hx hb dX5_foundFold_13 (by decide) ?_
      refine lv_icmp_gt (tgt := 26) hx hb dX5_foundFold_14 (by decide) (fun c3 => ?_) (fun c3 => ?_)
      · have hf := (if_pos c3).symm.trans hf
        refine lv_bipush (v := (-5)) hx hb dX5_foundFold_26 (by decide) ?_
        have ho := Option.some.inj hf
        exact r_iret X hr hP hS ho rfl dX5_foundFold_28
      · have hf := (if_neg c3).symm.trans hf
        refine lv_aload_n hx hb dX5_foundFold_17 rfl (lv_at hl 0 rfl) ?_
        refine r_get X hP 0 (wX5_g0_0 _ _ _) rfl inc_X5 1 (by decide) fl_X5_15 rfl dX5_foundFold_18 ?_
        refine lv_iload_n hx hb dX5_foundFold_21 rfl (lv_at hl 1 rfl) ?_
        obtain ⟨h4, hf⟩ := chk_in hf
        refine r_iald X hP 1 (wX5_g0_1 _ _ _) h4 dX5_foundFold_22 ?_
        refine lv_goto (tgt := 28) hx hb dX5_foundFold_23 (by decide) ?_
        have ho := Option.some.inj hf
        exact r_iret X hr hP hS ho rfl dX5_foundFold_28
def rm_X5_startFrom : Room := { frames := 2, cells := 0, slots := 0, locals := 61 }
theorem pv_X5_startFrom : PkV RX5 yX5_startFrom cX5_startFrom 2 none 1 := ⟨im_X5_startFrom, se_X5_startFrom, ini_X5, cd_X5_startFrom, by decide +kernel⟩
set_option maxHeartbeats 4000000 in
set_option maxRecDepth 100000 in
theorem c_X5_startFrom (l : Launch) (E : Ev) (a : Nat → Nat) (σ : Sg) (b : Nat → Nat) (τ : Sg) {out : Sg} (hf : f_X5_startFrom σ τ = some out) : MtV l yX5_startFrom (wl yX5_startFrom cX5_startFrom 2 none) rm_X5_startFrom E [.ref (a 0), .ref (b 0)] (wX5X3 E a σ b τ) (wX5X3 E a out b τ) := by
  refine mt_of (QQ := (fun A => va_Qv (fun _ : Unit => True) (fun _ t => QW E (wX5X3 E a out b τ) t) A)) (by decide) (Nat.le_of_ble_eq_true rfl) (fun p e s m below meth c A ls X hr hP hD hS hl => ?_)
  have hx := X.1.1
  have hb := X.1.2.1
  have hl : lv_has ls 2 [(0, .ref (a 0)), (1, .ref (b 0))] := hl
  obtain ⟨H, hHe⟩ : ∃ H : Heap, H = s.heap := ⟨_, rfl⟩
  obtain ⟨locs, hLe⟩ : ∃ locs : List Loc, locs = [] := ⟨_, rfl⟩
  have hP : va_P E.1 vwCl (wX5X3 E a σ b τ) H := by rw [hHe]; exact hP
  have hS : va_S A s.heap H locs := by rw [hHe, hLe]; exact hS
  rw [← hLe, show W p l e rm_X5_startFrom s m ([.ref (a 0), .ref (b 0)] : List Value).toArray below meth c s.heap locs 0 0 = W p l e rm_X5_startFrom s m ([.ref (a 0), .ref (b 0)] : List Value).toArray below meth c H locs 0 0 from by rw [hHe]]
  refine lv_aload_n hx hb dX5_startFrom_0 rfl (lv_at hl 0 rfl) ?_
  refine r_get X hP 0 (wX5X3_g0_0 _ _ _ _ _) rfl inc_X5 3 (by decide) fl_X5_24 rfl dX5_startFrom_1 ?_
  refine lv_iconst (v := 0) hx hb dX5_startFrom_4 (by decide) ?_
  refine r_aldq (z := 0) X hP 3 3 (wX5X3_g0_3 _ _ _ _ _) rfl rfl (vin_d rfl) (v := a 4) rfl dX5_startFrom_5 ?_
  refine lv_aload_n hx hb dX5_startFrom_6 rfl (lv_at hl 1 rfl) ?_
  obtain ⟨z1, hz1, hf⟩ := obd hf
  refine cV_putV X (As := [.ref (b 0)]) (rest := []) (c_X3_copyFrom l E (sg_off a 4) (sg_off σ 4) b τ hz1) pv_X3_copyFrom ml_X5_33 ⟨rfl, rfl⟩ ⟨(Nat.le_of_ble_eq_true rfl), (Nat.le_of_ble_eq_true rfl)⟩ hP hD hS (wX5X3_b_0_4_1_0_X3X3 _ _ _ _ _) rfl (wX3X3_g0_0 _ _ _ _ _) rfl (wX5X3_p_0_4_1_0_X3X3 _ _ _ _ _ _) rfl hl.1 rfl (Nat.le_of_ble_eq_true rfl) dX5_startFrom_7 ⟨Nat.le_refl _, Nat.le_refl _⟩ (fun H locs hP hD hS => ?_)
  refine lv_aload_n hx hb dX5_startFrom_10 rfl (lv_at hl 0 rfl) ?_
  refine lv_iconst (v := 0) hx hb dX5_startFrom_11 (by decide) ?_
  refine r_put X hP hD hS 0 (wX5X3_g0_0 _ _ _ _ _) rfl inc_X5 tyX5 tyX5_ok nmX5 0 (by decide) fl_X5_9 rfl (ty := .int) rfl rfl rfl (Nat.le_of_ble_eq_true rfl) (wX5X3_s0_0_0 _ _ _ _ _ _) dX5_startFrom_12 (fun H locs hP hD hS => ?_)
  have ho := Option.some.inj hf
  have hw := congrArg (fun o : Sg => (wX5X3 E a o b τ)) ho
  exact r_vret X hr hP hS hw dX5_startFrom_15
