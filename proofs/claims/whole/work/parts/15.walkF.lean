def rm_X8_isCell : Room := { frames := 0, cells := 0, slots := 0, locals := 0 }
theorem pv_X8_isCell : PkV RX8 yX8_isCell cX8_isCell 2 (some .boolean) 1 := ⟨im_X8_isCell, se_X8_isCell, ini_X8, cd_X8_isCell, by decide +kernel⟩
set_option maxHeartbeats 4000000 in
set_option maxRecDepth 100000 in
theorem c_X8_isCell (l : Launch) (E : Ev) (a : Nat → Nat) (σ : Sg) (tr : Int64) (p1 : Int32) {out : Int32} (hf : f_X8_isCell σ tr p1 = some out) : MtI l yX8_isCell (wl yX8_isCell cX8_isCell 2 (some .boolean)) rm_X8_isCell E [.ref (a 0), .int p1] (wX8 E a σ tr) out (wX8 E a σ tr) := by
  refine mt_of (QQ := (fun A => va_Qi (fun x (_ : Unit) => x = out) (fun _ t => QW E (wX8 E a σ tr) t) A)) (by decide) (Nat.le_of_ble_eq_true rfl) (fun p e s m below meth c A ls X hr hP hD hS hl => ?_)
  have hx := X.1.1
  have hb := X.1.2.1
  have hl : lv_has ls 2 [(0, .ref (a 0)), (1, .int p1)] := hl
  obtain ⟨H, hHe⟩ : ∃ H : Heap, H = s.heap := ⟨_, rfl⟩
  obtain ⟨locs, hLe⟩ : ∃ locs : List Loc, locs = [] := ⟨_, rfl⟩
  have hP : va_P E.1 vwCl (wX8 E a σ tr) H := by rw [hHe]; exact hP
  have hS : va_S A s.heap H locs := by rw [hHe, hLe]; exact hS
  rw [← hLe, show W p l e rm_X8_isCell s m ([.ref (a 0), .int p1] : List Value).toArray below meth c s.heap locs 0 0 = W p l e rm_X8_isCell s m ([.ref (a 0), .int p1] : List Value).toArray below meth c H locs 0 0 from by rw [hHe]]
  refine lv_iload_n hx hb dX8_isCell_0 rfl (lv_at hl 1 rfl) ?_
  refine lv_if_lt (tgt := 19) hx hb dX8_isCell_1 (by decide) (fun c1 => ?_) (fun c1 => ?_)
  · have hf := (if_pos c1).symm.trans hf
    refine lv_iconst (v := 0) hx hb dX8_isCell_19 (by decide) ?_
    have ho := Option.some.inj hf
    exact r_zret X hr hP hS rfl ho rfl dX8_isCell_20
  · have hf := (if_neg c1).symm.trans hf
    refine lv_iload_n hx hb dX8_isCell_4 rfl (lv_at hl 1 rfl) ?_
    refine lv_aload_n hx hb dX8_isCell_5 rfl (lv_at hl 0 rfl) ?_
    refine r_get X hP 0 (wX8_g0_0 _ _ _ _) rfl inc_X8 4 (by decide) fl_X8_35 rfl dX8_isCell_6 ?_
    refine r_get X hP 20 (wX8_g0_20 _ _ _ _) rfl inc_X3 0 (by decide) fl_X8_128 rfl dX8_isCell_9 ?_
    refine lv_icmp_ge (tgt := 19) hx hb dX8_isCell_12 (by decide) (fun c2 => ?_) (fun c2 => ?_)
    · have hf := (if_pos c2).symm.trans hf
      refine lv_iconst (v := 0) hx hb dX8_isCell_19 (by decide) ?_
      have ho := Option.some.inj hf
      exact r_zret X hr hP hS rfl ho rfl dX8_isCell_20
    · have hf := (if_neg c2).symm.trans hf
      refine lv_iconst (v := 1) hx hb dX8_isCell_15 (by decide) ?_
      refine lv_goto (tgt := 20) hx hb dX8_isCell_16 (by decide) ?_
      have ho := Option.some.inj hf
      exact r_zret X hr hP hS rfl ho rfl dX8_isCell_20
def rm_X8_areTwoCells : Room := { frames := 1, cells := 0, slots := 0, locals := 21 }
theorem pv_X8_areTwoCells : PkV RX8 yX8_areTwoCells cX8_areTwoCells 3 (some .boolean) 2 := ⟨im_X8_areTwoCells, se_X8_areTwoCells, ini_X8, cd_X8_areTwoCells, by decide +kernel⟩
set_option maxHeartbeats 4000000 in
set_option maxRecDepth 100000 in
theorem c_X8_areTwoCells (l : Launch) (E : Ev) (a : Nat → Nat) (σ : Sg) (tr : Int64) (p1 : Int32) (p2 : Int32) {out : Int32} (hf : f_X8_areTwoCells σ tr p1 p2 = some out) : MtI l yX8_areTwoCells (wl yX8_areTwoCells cX8_areTwoCells 3 (some .boolean)) rm_X8_areTwoCells E [.ref (a 0), .int p1, .int p2] (wX8 E a σ tr) out (wX8 E a σ tr) := by
  refine mt_of (QQ := (fun A => va_Qi (fun x (_ : Unit) => x = out) (fun _ t => QW E (wX8 E a σ tr) t) A)) (by decide) (Nat.le_of_ble_eq_true rfl) (fun p e s m below meth c A ls X hr hP hD hS hl => ?_)
  have hx := X.1.1
  have hb := X.1.2.1
  have hl : lv_has ls 3 [(0, .ref (a 0)), (1, .int p1), (2, .int p2)] := hl
  obtain ⟨H, hHe⟩ : ∃ H : Heap, H = s.heap := ⟨_, rfl⟩
  obtain ⟨locs, hLe⟩ : ∃ locs : List Loc, locs = [] := ⟨_, rfl⟩
  have hP : va_P E.1 vwCl (wX8 E a σ tr) H := by rw [hHe]; exact hP
  have hS : va_S A s.heap H locs := by rw [hHe, hLe]; exact hS
  rw [← hLe, show W p l e rm_X8_areTwoCells s m ([.ref (a 0), .int p1, .int p2] : List Value).toArray below meth c s.heap locs 0 0 = W p l e rm_X8_areTwoCells s m ([.ref (a 0), .int p1, .int p2] : List Value).toArray below meth c H locs 0 0 from by rw [hHe]]
  refine lv_aload_n hx hb dX8_areTwoCells_0 rfl (lv_at hl 0 rfl) ?_
  refine lv_iload_n hx hb dX8_areTwoCells_1 rfl (lv_at hl 1 rfl) ?_
  obtain ⟨z1, hz1, hf⟩ := obd hf
  refine cV_allI X (As := [.int p1]) (rest := []) (c_X8_isCell l E a σ tr p1 hz1) pv_X8_isCell ml_X8_104 ⟨rfl, rfl⟩ ⟨(Nat.le_of_ble_eq_true rfl), (Nat.le_of_ble_eq_true rfl)⟩ hP hD hS (wX8_g0_0 _ _ _ _) rfl (wX8_adr _ _ _ _ _ _) rfl hl.1 rfl (Nat.le_of_ble_eq_true rfl) dX8_areTwoCells_2 ⟨Nat.le_refl _, Nat.le_refl _⟩ (fun H locs hP hD hS => ?_)
  refine lv_if_eq (tgt := 25) hx hb dX8_areTwoCells_5 (by decide) (fun c2 => ?_) (fun c2 => ?_)
  · have hf := (if_pos c2).symm.trans hf
    refine lv_iconst (v := 0) hx hb dX8_areTwoCells_25 (by decide) ?_
    have ho := Option.some.inj hf
    exact r_zret X hr hP hS rfl ho rfl dX8_areTwoCells_26
  · have hf := (if_neg c2).symm.trans hf
    refine lv_aload_n hx hb dX8_areTwoCells_8 rfl (lv_at hl 0 rfl) ?_
    refine lv_iload_n hx hb dX8_areTwoCells_9 rfl (lv_at hl 2 rfl) ?_
    obtain ⟨z3, hz3, hf⟩ := obd hf
    refine cV_allI X (As := [.int p2]) (rest := []) (c_X8_isCell l E a σ tr p2 hz3) pv_X8_isCell ml_X8_104 ⟨rfl, rfl⟩ ⟨(Nat.le_of_ble_eq_true rfl), (Nat.le_of_ble_eq_true rfl)⟩ hP hD hS (wX8_g0_0 _ _ _ _) rfl (wX8_adr _ _ _ _ _ _) rfl hl.1 rfl (Nat.le_of_ble_eq_true rfl) dX8_areTwoCells_10 ⟨Nat.le_refl _, Nat.le_refl _⟩ (fun H locs hP hD hS => ?_)
    refine lv_if_eq (tgt := 25) hx hb dX8_areTwoCells_13 (by decide) (fun c4 => ?_) (fun c4 => ?_)
    · have hf := (if_pos c4).symm.trans hf
      refine lv_iconst (v := 0) hx hb dX8_areTwoCells_25 (by decide) ?_
      have ho := Option.some.inj hf
      exact r_zret X hr hP hS rfl ho rfl dX8_areTwoCells_26
    · have hf := (if_neg c4).symm.trans hf
      refine lv_iload_n hx hb dX8_areTwoCells_16 rfl (lv_at hl 1 rfl) ?_
      refine lv_iload_n hx hb dX8_areTwoCells_17 rfl (lv_at hl 2 rfl) ?_
      refine lv_icmp_eq (tgt := 25) hx hb dX8_areTwoCells_18 (by decide) (fun c5 => ?_) (fun c5 => ?_)
      · have hf := (if_pos c5).symm.trans hf
        refine lv_iconst (v := 0) hx hb dX8_areTwoCells_25 (by decide) ?_
        have ho := Option.some.inj hf
        exact r_zret X hr hP hS rfl ho rfl dX8_areTwoCells_26
      · have hf := (if_neg c5).symm.trans hf
        refine lv_iconst (v := 1) hx hb dX8_areTwoCells_21 (by decide) ?_
        refine lv_goto (tgt := 26) hx hb dX8_areTwoCells_22 (by decide) ?_
        have ho := Option.some.inj hf
        exact r_zret X hr hP hS rfl ho rfl dX8_areTwoCells_26
def rm_X8_at : Room := { frames := 0, cells := 0, slots := 0, locals := 0 }
theorem pv_X8_at : PkV RX8 yX8_at cX8_at 5 (some .int) 3 := ⟨im_X8_at, se_X8_at, ini_X8, cd_X8_at, by decide +kernel⟩
set_option maxHeartbeats 4000000 in
set_option maxRecDepth 100000 in
theorem c_X8_at (l : Launch) (E : Ev) (a : Nat → Nat) (σ : Sg) (tr : Int64) (p1 : Int32) (p2 : Int32) (p3 : Int32) {out : Int32} (hf : f_X8_at σ tr p1 p2 p3 = some out) : MtI l yX8_at (wl yX8_at cX8_at 5 (some .int)) rm_X8_at E [.ref (a 0), .int p1, .int p2, .int p3] (wX8 E a σ tr) out (wX8 E a σ tr) := by
  refine mt_of (QQ := (fun A => va_Qi (fun x (_ : Unit) => x = out) (fun _ t => QW E (wX8 E a σ tr) t) A)) (by decide) (Nat.le_of_ble_eq_true rfl) (fun p e s m below meth c A ls X hr hP hD hS hl => ?_)
  have hx := X.1.1
  have hb := X.1.2.1
  have hl : lv_has ls 5 [(0, .ref (a 0)), (1, .int p1), (2, .int p2), (3, .int p3)] := hl
  obtain ⟨H, hHe⟩ : ∃ H : Heap, H = s.heap := ⟨_, rfl⟩
  obtain ⟨locs, hLe⟩ : ∃ locs : List Loc, locs = [] := ⟨_, rfl⟩
  have hP : va_P E.1 vwCl (wX8 E a σ tr) H := by rw [hHe]; exact hP
  have hS : va_S A s.heap H locs := by rw [hHe, hLe]; exact hS
  rw [← hLe, show W p l e rm_X8_at s m ([.ref (a 0), .int p1, .int p2, .int p3] : List Value).toArray below meth c s.heap locs 0 0 = W p l e rm_X8_at s m ([.ref (a 0), .int p1, .int p2, .int p3] : List Value).toArray below meth c H locs 0 0 from by rw [hHe]]
  refine lv_iload_n hx hb dX8_at_0 rfl (lv_at hl 1 rfl) ?_
  refine lv_if_lt (tgt := 12) hx hb dX8_at_1 (by decide) (fun c1 => ?_) (fun c1 => ?_)
  · have hf := (if_pos c1).symm.trans hf
    refine lv_iconst (v := (-1)) hx hb dX8_at_12 (by decide) ?_
    have ho := Option.some.inj hf
    exact r_iret X hr hP hS ho rfl dX8_at_13
  · have hf := (if_neg c1).symm.trans hf
    refine lv_iload_n hx hb dX8_at_4 rfl (lv_at hl 2 rfl) ?_
    refine lv_if_lt (tgt := 12) hx hb dX8_at_5 (by decide) (fun c2 => ?_) (fun c2 => ?_)
    · have hf := (if_pos c2).symm.trans hf
      refine lv_iconst (v := (-1)) hx hb dX8_at_12 (by decide) ?_
      have ho := Option.some.inj hf
      exact r_iret X hr hP hS ho rfl dX8_at_13
    · have hf := (if_neg c2).symm.trans hf
      refine lv_iload_n hx hb dX8_at_8 rfl (lv_at hl 3 rfl) ?_
      refine lv_if_ge (tgt := 14) hx hb dX8_at_9 (by decide) (fun c3 => ?_) (fun c3 => ?_)
      · have hf := (if_pos c3).symm.trans hf
        refine lv_iconst (v := 0) hx hb dX8_at_14 (by decide) ?_
        refine lv_istore (lv' := [(4, .int 0), (0, .ref (a 0)), (1, .int p1), (2, .int p2), (3, .int p3)]) hx hb dX8_at_15 hl (by decide) rfl (fun ls hl => ?_)
        have L5 := lc1_ind (o := out) (step := (s_X8_at_17 σ p1 p2 p3)) (fun x4 => ∀ (H : Heap) (locs : List Loc) (ls : Array Slot), va_P E.1 vwCl (wX8 E a σ tr) H → va_D A (wX8 E a σ tr) → va_S A s.heap H locs → lv_has ls 5 [(0, .ref (a 0)), (1, .int p1), (2, .int p2), (3, .int p3), (4, .int x4)] → W p l e rm_X8_at s m ([.ref (a 0), .int p1, .int p2, .int p3] : List Value).toArray below meth c H locs 0 0 (MQ below (va_Qi (fun x (_ : Unit) => x = out) (fun _ t => QW E (wX8 E a σ tr) t) A) ([.ref (a 0), .int p1, .int p2, .int p3] : List Value).toArray s 0 0 A) (F0 m 17 ls [])) (fun x4 k5 ih5 hf H locs ls hP hD hS hl => by
          refine lv_iload hx hb dX8_at_17 (lv_at hl 4 rfl) ?_
          refine lv_aload_n hx hb dX8_at_19 rfl (lv_at hl 0 rfl) ?_
          refine r_get X hP 0 (wX8_g0_0 _ _ _ _) rfl inc_X8 4 (by decide) fl_X8_35 rfl dX8_at_20 ?_
          refine r_get X hP 20 (wX8_g0_20 _ _ _ _) rfl inc_X3 0 (by decide) fl_X8_128 rfl dX8_at_23 ?_
          refine lv_icmp_ge (tgt := 80) hx hb dX8_at_26 (by decide) (fun c6 => ?_) (fun c6 => ?_)
          · have hf := (if_pos c6).symm.trans hf
            refine lv_bipush (v := (-9)) hx hb dX8_at_80 (by decide) ?_
            have ho := Option.some.inj hf
            exact r_iret X hr hP hS ho rfl dX8_at_82
          · have hf := (if_neg c6).symm.trans hf
            refine lv_aload_n hx hb dX8_at_29 rfl (lv_at hl 0 rfl) ?_
            refine r_get X hP 0 (wX8_g0_0 _ _ _ _) rfl inc_X8 4 (by decide) fl_X8_35 rfl dX8_at_30 ?_
            refine r_get X hP 20 (wX8_g0_20 _ _ _ _) rfl inc_X3 3 (by decide) fl_X8_108 rfl dX8_at_33 ?_
            refine lv_iload hx hb dX8_at_36 (lv_at hl 4 rfl) ?_
            obtain ⟨h7, hf⟩ := chk_in hf
            refine r_iald X hP 21 (wX8_g0_21 _ _ _ _) h7 dX8_at_38 ?_
            refine lv_iload_n hx hb dX8_at_39 rfl (lv_at hl 1 rfl) ?_
            refine lv_icmp_ne (tgt := 74) hx hb dX8_at_40 (by decide) (fun c8 => ?_) (fun c8 => ?_)
            · have hf := (if_neg c8).symm.trans hf
              refine lv_iinc (v := (x4 + 1)) (lv' := [(4, .int (x4 + 1)), (0, .ref (a 0)), (1, .int p1), (2, .int p2), (3, .int p3)]) hx hb dX8_at_74 hl (k := 4) rfl rfl (by decide) rfl (fun ls hl => ?_)
              refine lv_goto (tgt := 17) hx hb dX8_at_77 (by decide) ?_
              exact ih5 (x4 + 1) hf H locs ls hP hD hS (lv_sub hl [1, 2, 3, 4, 0] rfl)
            · have hf := (if_pos c8).symm.trans hf
              refine lv_aload_n hx hb dX8_at_43 rfl (lv_at hl 0 rfl) ?_
              refine r_get X hP 0 (wX8_g0_0 _ _ _ _) rfl inc_X8 4 (by decide) fl_X8_35 rfl dX8_at_44 ?_
              refine r_get X hP 20 (wX8_g0_20 _ _ _ _) rfl inc_X3 4 (by decide) fl_X8_112 rfl dX8_at_47 ?_
              refine lv_iload hx hb dX8_at_50 (lv_at hl 4 rfl) ?_
              obtain ⟨h9, hf⟩ := chk_in hf
              refine r_iald X hP 22 (wX8_g0_22 _ _ _ _) h9 dX8_at_52 ?_
              refine lv_iload_n hx hb dX8_at_53 rfl (lv_at hl 2 rfl) ?_
              refine lv_icmp_ne (tgt := 74) hx hb dX8_at_54 (by decide) (fun c10 => ?_) (fun c10 => ?_)
              · have hf := (if_neg c10).symm.trans hf
                refine lv_iinc (v := (x4 + 1)) (lv' := [(4, .int (x4 + 1)), (0, .ref (a 0)), (1, .int p1), (2, .int p2), (3, .int p3)]) hx hb dX8_at_74 hl (k := 4) rfl rfl (by decide) rfl (fun ls hl => ?_)
                refine lv_goto (tgt := 17) hx hb dX8_at_77 (by decide) ?_
                exact ih5 (x4 + 1) hf H locs ls hP hD hS (lv_sub hl [1, 2, 3, 4, 0] rfl)
              · have hf := (if_pos c10).symm.trans hf
                refine lv_aload_n hx hb dX8_at_57 rfl (lv_at hl 0 rfl) ?_
                refine r_get X hP 0 (wX8_g0_0 _ _ _ _) rfl inc_X8 4 (by decide) fl_X8_35 rfl dX8_at_58 ?_
                refine r_get X hP 20 (wX8_g0_20 _ _ _ _) rfl inc_X3 5 (by decide) fl_X8_115 rfl dX8_at_61 ?_
                refine lv_iload hx hb dX8_at_64 (lv_at hl 4 rfl) ?_
                obtain ⟨h11, hf⟩ := chk_in hf
                refine r_iald X hP 23 (wX8_g0_23 _ _ _ _) h11 dX8_at_66 ?_
                refine lv_iload_n hx hb dX8_at_67 rfl (lv_at hl 3 rfl) ?_
                refine lv_icmp_ne (tgt := 74) hx hb dX8_at_68 (by decide) (fun c12 => ?_) (fun c12 => ?_)
                · have hf := (if_neg c12).symm.trans hf
                  refine lv_iinc (v := (x4 + 1)) (lv' := [(4, .int (x4 + 1)), (0, .ref (a 0)), (1, .int p1), (2, .int p2), (3, .int p3)]) hx hb dX8_at_74 hl (k := 4) rfl rfl (by decide) rfl (fun ls hl => ?_)
                  refine lv_goto (tgt := 17) hx hb dX8_at_77 (by decide) ?_
                  exact ih5 (x4 + 1) hf H locs ls hP hD hS (lv_sub hl [1, 2, 3, 4, 0] rfl)
                · have hf := (if_pos c12).symm.trans hf
                  refine lv_iload hx hb dX8_at_71 (lv_at hl 4 rfl) ?_
                  have ho := Option.some.inj hf
                  exact r_iret X hr hP hS ho rfl dX8_at_73)
        exact L5 1000 0 hf H locs ls hP hD hS (lv_sub hl [1, 2, 3, 4, 0] rfl)
      · have hf := (if_neg c3).symm.trans hf
        refine lv_iconst (v := (-1)) hx hb dX8_at_12 (by decide) ?_
        have ho := Option.some.inj hf
        exact r_iret X hr hP hS ho rfl dX8_at_13
def rm_X8_bendBy : Room := { frames := 3, cells := 0, slots := 0, locals := 75 }
theorem pv_X8_bendBy : PkV RX8 yX8_bendBy cX8_bendBy 2 none 1 := ⟨im_X8_bendBy, se_X8_bendBy, ini_X8, cd_X8_bendBy, by decide +kernel⟩
set_option maxHeartbeats 4000000 in
set_option maxRecDepth 100000 in
theorem c_X8_bendBy (l : Launch) (E : Ev) (a : Nat → Nat) (σ : Sg) (tr : Int64) (p1 : Int32) {out : Sg} (hf : f_X8_bendBy σ tr p1 = some out) : MtV l yX8_bendBy (wl yX8_bendBy cX8_bendBy 2 none) rm_X8_bendBy E [.ref (a 0), .int p1] (wX8 E a σ tr) (wX8 E a out tr) := by
  refine mt_of (QQ := (fun A => va_Qv (fun _ : Unit => True) (fun _ t => QW E (wX8 E a out tr) t) A)) (by decide) (Nat.le_of_ble_eq_true rfl) (fun p e s m below meth c A ls X hr hP hD hS hl => ?_)
  have hx := X.1.1
  have hb := X.1.2.1
  have hl : lv_has ls 2 [(0, .ref (a 0)), (1, .int p1)] := hl
  obtain ⟨H, hHe⟩ : ∃ H : Heap, H = s.heap := ⟨_, rfl⟩
  obtain ⟨locs, hLe⟩ : ∃ locs : List Loc, locs = [] := ⟨_, rfl⟩
  have hP : va_P E.1 vwCl (wX8 E a σ tr) H := by rw [hHe]; exact hP
  have hS : va_S A s.heap H locs := by rw [hHe, hLe]; exact hS
  rw [← hLe, show W p l e rm_X8_bendBy s m ([.ref (a 0), .int p1] : List Value).toArray below meth c s.heap locs 0 0 = W p l e rm_X8_bendBy s m ([.ref (a 0), .int p1] : List Value).toArray below meth c H locs 0 0 from by rw [hHe]]
  refine lv_aload_n hx hb dX8_bendBy_0 rfl (lv_at hl 0 rfl) ?_
  refine r_get X hP 0 (wX8_g0_0 _ _ _ _) rfl inc_X8 5 (by decide) fl_X8_41 rfl dX8_bendBy_1 ?_
  refine lv_aload_n hx hb dX8_bendBy_4 rfl (lv_at hl 0 rfl) ?_
  refine r_get X hP 0 (wX8_g0_0 _ _ _ _) rfl inc_X8 4 (by decide) fl_X8_35 rfl dX8_bendBy_5 ?_
  refine lv_iload_n hx hb dX8_bendBy_8 rfl (lv_at hl 1 rfl) ?_
  obtain ⟨z1, hz1, hf⟩ := obd hf
  refine cV_putV X (As := [.ref (a 20), .int p1]) (rest := []) (c_X0_bend l E (sg_off a 26) (sg_off σ 26) (sg_off a 20) (sg_off σ 20) p1 hz1) pv_X0_bend ml_X8_282 ⟨rfl, rfl⟩ ⟨(Nat.le_of_ble_eq_true rfl), (Nat.le_of_ble_eq_true rfl)⟩ hP hD hS (wX8_b_0_26_0_20_X0X3 _ _ _ _) rfl (wX0X3_g0_0 _ _ _ _ _) rfl (wX8_p_0_26_0_20_X0X3 _ _ _ _ _) rfl hl.1 rfl (Nat.le_of_ble_eq_true rfl) dX8_bendBy_9 ⟨Nat.le_refl _, Nat.le_refl _⟩ (fun H locs hP hD hS => ?_)
  refine lv_aload_n hx hb dX8_bendBy_12 rfl (lv_at hl 0 rfl) ?_
  refine r_get X hP 0 (wX8_g0_0 _ _ _ _) rfl inc_X8 4 (by decide) fl_X8_35 rfl dX8_bendBy_13 ?_
  refine lv_iload_n hx hb dX8_bendBy_16 rfl (lv_at hl 1 rfl) ?_
  obtain ⟨z2, hz2, hf⟩ := obd hf
  refine cV_putV X (As := [.int p1]) (rest := []) (c_X3_bend l E (sg_off a 20) (sg_off (sg_sp σ 26 4 z1) 20) p1 hz2) pv_X3_bend ml_X8_286 ⟨rfl, rfl⟩ ⟨(Nat.le_of_ble_eq_true rfl), (Nat.le_of_ble_eq_true rfl)⟩ hP hD hS (wX8_b_0_20_X3 _ _ _ _) rfl (wX3_g0_0 _ _ _) rfl (wX8_p_0_20_X3 _ _ _ _ _) rfl hl.1 rfl (Nat.le_of_ble_eq_true rfl) dX8_bendBy_17 ⟨Nat.le_refl _, Nat.le_refl _⟩ (fun H locs hP hD hS => ?_)
  have ho := Option.some.inj hf
  have hw := congrArg (fun o : Sg => (wX8 E a o tr)) ho
  exact r_vret X hr hP hS hw dX8_bendBy_20
def rm_X8_foldAsNowTells : Room := { frames := 4, cells := 0, slots := 0, locals := 96 }
theorem pv_X8_foldAsNowTells : PkV RX8 yX8_foldAsNowTells cX8_foldAsNowTells 2 none 0 := ⟨im_X8_foldAsNowTells, se_X8_foldAsNowTells, ini_X8, cd_X8_foldAsNowTells, by decide +kernel⟩
set_option maxHeartbeats 4000000 in
set_option maxRecDepth 100000 in
theorem c_X8_foldAsNowTells (l : Launch) (E : Ev) (a : Nat → Nat) (σ : Sg) (tr : Int64) {out : Sg} (hf : f_X8_foldAsNowTells σ tr = some out) : MtV l yX8_foldAsNowTells (wl yX8_foldAsNowTells cX8_foldAsNowTells 2 none) rm_X8_foldAsNowTells E [.ref (a 0)] (wX8 E a σ tr) (wX8 E a out tr) := by
  refine mt_of (QQ := (fun A => va_Qv (fun _ : Unit => True) (fun _ t => QW E (wX8 E a out tr) t) A)) (by decide) (Nat.le_of_ble_eq_true rfl) (fun p e s m below meth c A ls X hr hP hD hS hl => ?_)
  have hx := X.1.1
  have hb := X.1.2.1
  have hl : lv_has ls 2 [(0, .ref (a 0))] := hl
  obtain ⟨H, hHe⟩ : ∃ H : Heap, H = s.heap := ⟨_, rfl⟩
  obtain ⟨locs, hLe⟩ : ∃ locs : List Loc, locs = [] := ⟨_, rfl⟩
  have hP : va_P E.1 vwCl (wX8 E a σ tr) H := by rw [hHe]; exact hP
  have hS : va_S A s.heap H locs := by rw [hHe, hLe]; exact hS
  rw [← hLe, show W p l e rm_X8_foldAsNowTells s m ([.ref (a 0)] : List Value).toArray below meth c s.heap locs 0 0 = W p l e rm_X8_foldAsNowTells s m ([.ref (a 0)] : List Value).toArray below meth c H locs 0 0 from by rw [hHe]]
  refine lv_aload_n hx hb dX8_foldAsNowTells_0 rfl (lv_at hl 0 rfl) ?_
  refine r_get X hP 0 (wX8_g0_0 _ _ _ _) rfl inc_X8 4 (by decide) fl_X8_35 rfl dX8_foldAsNowTells_1 ?_
  refine lv_aload_n hx hb dX8_foldAsNowTells_4 rfl (lv_at hl 0 rfl) ?_
  refine r_get X hP 0 (wX8_g0_0 _ _ _ _) rfl inc_X8 3 (by decide) fl_X8_31 rfl dX8_foldAsNowTells_5 ?_
  obtain ⟨z1, hz1, hf⟩ := obd hf
  refine cV_putV X (As := [.ref (a 14)]) (rest := []) (c_X3_copyFrom l E (sg_off a 20) (sg_off σ 20) (sg_off a 14) (sg_off σ 14) hz1) pv_X3_copyFrom ml_X8_268 ⟨rfl, rfl⟩ ⟨(Nat.le_of_ble_eq_true rfl), (Nat.le_of_ble_eq_true rfl)⟩ hP hD hS (wX8_b_0_20_0_14_X3X3 _ _ _ _) rfl (wX3X3_g0_0 _ _ _ _ _) rfl (wX8_p_0_20_0_14_X3X3 _ _ _ _ _) rfl hl.1 rfl (Nat.le_of_ble_eq_true rfl) dX8_foldAsNowTells_8 ⟨Nat.le_refl _, Nat.le_refl _⟩ (fun H locs hP hD hS => ?_)
  refine lv_aload_n hx hb dX8_foldAsNowTells_11 rfl (lv_at hl 0 rfl) ?_
  refine r_get X hP 0 (wX8_g0_0 _ _ _ _) rfl inc_X8 6 (by decide) fl_X8_48 rfl dX8_foldAsNowTells_12 ?_
  refine r_get X hP 30 (wX8_g0_30 _ _ _ _) rfl inc_X2 4 (by decide) fl_X8_270 rfl dX8_foldAsNowTells_15 ?_
  refine lv_iconst (v := 0) hx hb dX8_foldAsNowTells_18 (by decide) ?_
  refine lv_aload_n hx hb dX8_foldAsNowTells_19 rfl (lv_at hl 0 rfl) ?_
  refine r_get X hP 0 (wX8_g0_0 _ _ _ _) rfl inc_X8 5 (by decide) fl_X8_41 rfl dX8_foldAsNowTells_20 ?_
  refine r_get X hP 26 (wX8_g0_26 _ _ _ _) rfl inc_X0 3 (by decide) fl_X8_171 rfl dX8_foldAsNowTells_23 ?_
  refine lv_iconst (v := 0) hx hb dX8_foldAsNowTells_26 (by decide) ?_
  refine lv_bipush (v := 24) hx hb dX8_foldAsNowTells_27 (by decide) ?_
  obtain ⟨h2, hf⟩ := ccp_in hf
  refine r_copy X hl.1 hP hD hS ml_X8_273 nv_arraycopy sm_arraycopy ini_J10 32 29 (wX8_g0_32 _ _ _ _) (wX8_g0_29 _ _ _ _) h2 (Nat.le_of_ble_eq_true rfl) (Nat.le_of_ble_eq_true rfl) (wX8_r0_29 _ _ _ _ _) dX8_foldAsNowTells_29 (fun H locs hP hD hS => ?_)
  refine lv_iconst (v := 0) hx hb dX8_foldAsNowTells_32 (by decide) ?_
  refine lv_istore_n (lv' := [(1, .int 0), (0, .ref (a 0))]) hx hb dX8_foldAsNowTells_33 rfl hl (by decide) rfl (fun ls hl => ?_)
  have L5 := lc2_ind (o := out) (step := (s_X8_foldAsNowTells_34 tr)) (fun x3 g4 => ∀ (H : Heap) (locs : List Loc) (ls : Array Slot), va_P E.1 vwCl (wX8 E a g4 tr) H → va_D A (wX8 E a g4 tr) → va_S A s.heap H locs → lv_has ls 2 [(0, .ref (a 0)), (1, .int x3)] → W p l e rm_X8_foldAsNowTells s m ([.ref (a 0)] : List Value).toArray below meth c H locs 0 0 (MQ below (va_Qv (fun _ : Unit => True) (fun _ t => QW E (wX8 E a out tr) t) A) ([.ref (a 0)] : List Value).toArray s 0 0 A) (F0 m 34 ls [])) (fun x3 g4 k5 ih5 hf H locs ls hP hD hS hl => by
    refine lv_iload_n hx hb dX8_foldAsNowTells_34 rfl (lv_at hl 1 rfl) ?_
    refine lv_aload_n hx hb dX8_foldAsNowTells_35 rfl (lv_at hl 0 rfl) ?_
    refine r_get X hP 0 (wX8_g0_0 _ _ _ _) rfl inc_X8 6 (by decide) fl_X8_48 rfl dX8_foldAsNowTells_36 ?_
    refine r_get X hP 30 (wX8_g0_30 _ _ _ _) rfl inc_X2 2 (by decide) fl_X8_154 rfl dX8_foldAsNowTells_39 ?_
    refine lv_icmp_ge (tgt := 64) hx hb dX8_foldAsNowTells_42 (by decide) (fun c6 => ?_) (fun c6 => ?_)
    · have hf := (if_pos c6).symm.trans hf
      have ho := Option.some.inj hf
      have hw := congrArg (fun o : Sg => (wX8 E a o tr)) ho
      exact r_vret X hr hP hS hw dX8_foldAsNowTells_64
    · have hf := (if_neg c6).symm.trans hf
      refine lv_aload_n hx hb dX8_foldAsNowTells_45 rfl (lv_at hl 0 rfl) ?_
      refine lv_aload_n hx hb dX8_foldAsNowTells_46 rfl (lv_at hl 0 rfl) ?_
      refine r_get X hP 0 (wX8_g0_0 _ _ _ _) rfl inc_X8 6 (by decide) fl_X8_48 rfl dX8_foldAsNowTells_47 ?_
      refine r_get X hP 30 (wX8_g0_30 _ _ _ _) rfl inc_X2 3 (by decide) fl_X8_279 rfl dX8_foldAsNowTells_50 ?_
      refine lv_iload_n hx hb dX8_foldAsNowTells_53 rfl (lv_at hl 1 rfl) ?_
      obtain ⟨h7, hf⟩ := chk_in hf
      refine r_iald X hP 31 (wX8_g0_31 _ _ _ _) h7 dX8_foldAsNowTells_54 ?_
      obtain ⟨z8, hz8, hf⟩ := obd hf
      refine cV_allV X (As := [.int (g4 31 (x3 : Int32).toNatClampNeg)]) (rest := []) (c_X8_bendBy l E a g4 tr (g4 31 (x3 : Int32).toNatClampNeg) hz8) pv_X8_bendBy ml_X8_147 ⟨rfl, rfl⟩ ⟨(Nat.le_of_ble_eq_true rfl), (Nat.le_of_ble_eq_true rfl)⟩ hP hD hS (wX8_g0_0 _ _ _ _) rfl (wX8_adr _ _ _ _ _ _) rfl hl.1 rfl (Nat.le_of_ble_eq_true rfl) dX8_foldAsNowTells_55 ⟨Nat.le_refl _, Nat.le_refl _⟩ (fun H locs hP hD hS => ?_)
      refine lv_iinc (v := (x3 + 1)) (lv' := [(1, .int (x3 + 1)), (0, .ref (a 0))]) hx hb dX8_foldAsNowTells_58 hl (k := 1) rfl rfl (by decide) rfl (fun ls hl => ?_)
      refine lv_goto (tgt := 34) hx hb dX8_foldAsNowTells_61 (by decide) ?_
      exact ih5 (x3 + 1) z8 hf H locs ls hP hD hS (lv_sub hl [1, 0] rfl))
  exact L5 1000 0 (sg_ar (sg_sp σ 20 6 z1) 29 (va_cpy ((sg_sp σ 20 6 z1) 32) ((sg_sp σ 20 6 z1) 29) (0 : Int32).toNatClampNeg (0 : Int32).toNatClampNeg (24 : Int32).toNatClampNeg)) hf H locs ls hP hD hS (lv_sub hl [1, 0] rfl)
def rm_X8_isImage : Room := { frames := 0, cells := 0, slots := 0, locals := 0 }
theorem ps_X8_isImage : PkS yX8_isImage cX8_isImage 1 (some .boolean) 1 := ⟨sm_X8_isImage, ini_X8, cd_X8_isImage, by decide +kernel⟩
set_option maxHeartbeats 4000000 in
set_option maxRecDepth 100000 in
theorem c_X8_isImage (l : Launch) (E : Ev) (p1 : Int32) {out : Int32} (hf : f_X8_isImage p1 = some out) : MtI l yX8_isImage (wl yX8_isImage cX8_isImage 1 (some .boolean)) rm_X8_isImage E [.int p1] ([] : va_W) out ([] : va_W) := by
  refine mt_of (QQ := (fun A => va_Qi (fun x (_ : Unit) => x = out) (fun _ t => QW E ([] : va_W) t) A)) (by decide) (Nat.le_of_ble_eq_true rfl) (fun p e s m below meth c A ls X hr hP hD hS hl => ?_)
  have hx := X.1.1
  have hb := X.1.2.1
  have hl : lv_has ls 1 [(0, .int p1)] := hl
  obtain ⟨H, hHe⟩ : ∃ H : Heap, H = s.heap := ⟨_, rfl⟩
  obtain ⟨locs, hLe⟩ : ∃ locs : List Loc, locs = [] := ⟨_, rfl⟩
  have hP : va_P E.1 vwCl ([] : va_W) H := by rw [hHe]; exact hP
  have hS : va_S A s.heap H locs := by rw [hHe, hLe]; exact hS
  rw [← hLe, show W p l e rm_X8_isImage s m ([.int p1] : List Value).toArray below meth c s.heap locs 0 0 = W p l e rm_X8_isImage s m ([.int p1] : List Value).toArray below meth c H locs 0 0 from by rw [hHe]]
  refine lv_iload_n hx hb dX8_isImage_0 rfl (lv_at hl 0 rfl) ?_
  refine lv_if_lt (tgt := 13) hx hb dX8_isImage_1 (by decide) (fun c1 => ?_) (fun c1 => ?_)
  · have hf := (if_pos c1).symm.trans hf
    refine lv_iconst (v := 0) hx hb dX8_isImage_13 (by decide) ?_
    have ho := Option.some.inj hf
    exact r_zret X hr hP hS rfl ho rfl dX8_isImage_14
  · have hf := (if_neg c1).symm.trans hf
    refine lv_iload_n hx hb dX8_isImage_4 rfl (lv_at hl 0 rfl) ?_
    refine lv_iconst (v := 2) hx hb dX8_isImage_5 (by decide) ?_
    refine lv_icmp_ge (tgt := 13) hx hb dX8_isImage_6 (by decide) (fun c2 => ?_) (fun c2 => ?_)
    · have hf := (if_pos c2).symm.trans hf
      refine lv_iconst (v := 0) hx hb dX8_isImage_13 (by decide) ?_
      have ho := Option.some.inj hf
      exact r_zret X hr hP hS rfl ho rfl dX8_isImage_14
    · have hf := (if_neg c2).symm.trans hf
      refine lv_iconst (v := 1) hx hb dX8_isImage_9 (by decide) ?_
      refine lv_goto (tgt := 14) hx hb dX8_isImage_10 (by decide) ?_
      have ho := Option.some.inj hf
      exact r_zret X hr hP hS rfl ho rfl dX8_isImage_14
def rm_X8_back : Room := { frames := 5, cells := 0, slots := 0, locals := 117 }
theorem pv_X8_back : PkV RX8 yX8_back cX8_back 2 (some .int) 1 := ⟨im_X8_back, se_X8_back, ini_X8, cd_X8_back, by decide +kernel⟩
set_option maxHeartbeats 4000000 in
set_option maxRecDepth 100000 in
theorem c_X8_back (l : Launch) (E : Ev) (a : Nat → Nat) (σ : Sg) (tr : Int64) (p1 : Int32) {out : Int32 × Sg} (hf : f_X8_back σ tr p1 = some out) : MtI l yX8_back (wl yX8_back cX8_back 2 (some .int)) rm_X8_back E [.ref (a 0), .int p1] (wX8 E a σ tr) out.1 (wX8 E a out.2 tr) := by
  refine mt_of (QQ := (fun A => va_Qi (fun x (_ : Unit) => x = out.1) (fun _ t => QW E (wX8 E a out.2 tr) t) A)) (by decide) (Nat.le_of_ble_eq_true rfl) (fun p e s m below meth c A ls X hr hP hD hS hl => ?_)
  have hx := X.1.1
  have hb := X.1.2.1
  have hl : lv_has ls 2 [(0, .ref (a 0)), (1, .int p1)] := hl
  obtain ⟨H, hHe⟩ : ∃ H : Heap, H = s.heap := ⟨_, rfl⟩
  obtain ⟨locs, hLe⟩ : ∃ locs : List Loc, locs = [] := ⟨_, rfl⟩
  have hP : va_P E.1 vwCl (wX8 E a σ tr) H := by rw [hHe]; exact hP
  have hS : va_S A s.heap H locs := by rw [hHe, hLe]; exact hS
  rw [← hLe, show W p l e rm_X8_back s m ([.ref (a 0), .int p1] : List Value).toArray below meth c s.heap locs 0 0 = W p l e rm_X8_back s m ([.ref (a 0), .int p1] : List Value).toArray below meth c H locs 0 0 from by rw [hHe]]
  refine lv_iload_n hx hb dX8_back_0 rfl (lv_at hl 1 rfl) ?_
  obtain ⟨z1, hz1, hf⟩ := obd hf
  refine cS_roI X (As := [.int p1]) (rest := []) (c_X8_isImage l E p1 hz1) ps_X8_isImage ml_X8_247 ⟨rfl, rfl⟩ ⟨(Nat.le_of_ble_eq_true rfl), (Nat.le_of_ble_eq_true rfl)⟩ hP hD hS (is := []) (wc := []) rfl rfl rfl hl.1 rfl (Nat.le_of_ble_eq_true rfl) dX8_back_1 ⟨Nat.le_refl _, Nat.le_refl _⟩ (fun H locs hP hS => ?_)
  refine lv_if_ne (tgt := 9) hx hb dX8_back_4 (by decide) (fun c2 => ?_) (fun c2 => ?_)
  · have hf := (if_neg c2).symm.trans hf
    refine lv_aload_n hx hb dX8_back_9 rfl (lv_at hl 0 rfl) ?_
    refine r_get X hP 0 (wX8_g0_0 _ _ _ _) rfl inc_X8 7 (by decide) fl_X8_52 rfl dX8_back_10 ?_
    refine lv_iload_n hx hb dX8_back_13 rfl (lv_at hl 1 rfl) ?_
    have J1 : ∀ (x3 : Int32), j_X8_back_1 σ tr p1 x3 = some out → ∀ (H : Heap) (locs : List Loc) (ls : Array Slot), va_P E.1 vwCl (wX8 E a σ tr) H → va_D A (wX8 E a σ tr) → va_S A s.heap H locs → lv_has ls 2 [(0, .ref (a 0)), (1, .int p1)] → W p l e rm_X8_back s m ([.ref (a 0), .int p1] : List Value).toArray below meth c H locs 0 0 (MQ below (va_Qi (fun x (_ : Unit) => x = out.1) (fun _ t => QW E (wX8 E a out.2 tr) t) A) ([.ref (a 0), .int p1] : List Value).toArray s 0 0 A) (F0 m 18 ls [.int x3]) := by
      intro x3 hf H locs ls hP hD hS hl
      refine lv_if_ne (tgt := 24) hx hb dX8_back_18 (by decide) (fun c4 => ?_) (fun c4 => ?_)
      · have hf := (if_neg c4).symm.trans hf
        refine lv_aload_n hx hb dX8_back_24 rfl (lv_at hl 0 rfl) ?_
        refine r_get X hP 0 (wX8_g0_0 _ _ _ _) rfl inc_X8 6 (by decide) fl_X8_48 rfl dX8_back_25 ?_
        refine lv_aload_n hx hb dX8_back_28 rfl (lv_at hl 0 rfl) ?_
        refine r_get X hP 0 (wX8_g0_0 _ _ _ _) rfl inc_X8 7 (by decide) fl_X8_52 rfl dX8_back_29 ?_
        refine lv_iload_n hx hb dX8_back_32 rfl (lv_at hl 1 rfl) ?_
        have J2 : ∀ (g5 : Sg), j_X8_back_2 tr g5 = some out → ∀ (H : Heap) (locs : List Loc) (ls : Array Slot), va_P E.1 vwCl (wX8 E a g5 tr) H → va_D A (wX8 E a g5 tr) → va_S A s.heap H locs → lv_has ls 2 [(0, .ref (a 0))] → W p l e rm_X8_back s m ([.ref (a 0), .int p1] : List Value).toArray below meth c H locs 0 0 (MQ below (va_Qi (fun x (_ : Unit) => x = out.1) (fun _ t => QW E (wX8 E a out.2 tr) t) A) ([.ref (a 0), .int p1] : List Value).toArray s 0 0 A) (F0 m 37 ls []) := by
          intro g5 hf H locs ls hP hD hS hl
          refine lv_aload_n hx hb dX8_back_37 rfl (lv_at hl 0 rfl) ?_
          obtain ⟨z6, hz6, hf⟩ := obd hf
          refine cV_allV X (As := []) (rest := []) (c_X8_foldAsNowTells l E a g5 tr hz6) pv_X8_foldAsNowTells ml_X8_157 ⟨rfl, rfl⟩ ⟨(Nat.le_of_ble_eq_true rfl), (Nat.le_of_ble_eq_true rfl)⟩ hP hD hS (wX8_g0_0 _ _ _ _) rfl (wX8_adr _ _ _ _ _ _) rfl hl.1 rfl (Nat.le_of_ble_eq_true rfl) dX8_back_38 ⟨Nat.le_refl _, Nat.le_refl _⟩ (fun H locs hP hD hS => ?_)
          refine lv_aload_n hx hb dX8_back_41 rfl (lv_at hl 0 rfl) ?_
          refine r_get X hP 0 (wX8_g0_0 _ _ _ _) rfl inc_X8 6 (by decide) fl_X8_48 rfl dX8_back_42 ?_
          refine r_get X hP 30 (wX8_g0_30 _ _ _ _) rfl inc_X2 1 (by decide) fl_X8_164 rfl dX8_back_45 ?_
          have ho := Option.some.inj hf
          have hv : (z6 30 1) = out.1 := by rw [← ho]
          have hw := congrArg (fun o : Int32 × Sg => (wX8 E a o.2 tr)) ho
          exact r_iret X hr hP hS hv hw dX8_back_48
        by_cases c7 : p1 = 0
        · have hf := (if_pos c7).symm.trans hf
          refine r_aldq X hP 33 2 (wX8_g0_33 _ _ _ _) rfl c7 (vin_d rfl) (v := a 34) rfl dX8_back_33 ?_
          obtain ⟨z8, hz8, hf⟩ := obd hf
          refine cV_putV X (As := [.ref (a 34)]) (rest := []) (c_X2_copyFrom l E (sg_off a 30) (sg_off σ 30) (sg_off a 34) (sg_off σ 34) hz8) pv_X2_copyFrom ml_X8_250 ⟨rfl, rfl⟩ ⟨(Nat.le_of_ble_eq_true rfl), (Nat.le_of_ble_eq_true rfl)⟩ hP hD hS (wX8_b_0_30_0_34_X2X2 _ _ _ _) rfl (wX2X2_g0_0 _ _ _ _ _) rfl (wX8_p_0_30_0_34_X2X2 _ _ _ _ _) rfl hl.1 rfl (Nat.le_of_ble_eq_true rfl) dX8_back_34 ⟨Nat.le_refl _, Nat.le_refl _⟩ (fun H locs hP hD hS => ?_)
          exact J2 (sg_sp σ 30 3 z8) hf H locs ls hP hD hS (lv_sub hl [0] rfl)
        · have hf := (if_neg c7).symm.trans hf
          by_cases c9 : p1 = 1
          · have hf := (if_pos c9).symm.trans hf
            refine r_aldq X hP 33 2 (wX8_g0_33 _ _ _ _) rfl c9 (vin_d rfl) (v := a 37) rfl dX8_back_33 ?_
            obtain ⟨z10, hz10, hf⟩ := obd hf
            refine cV_putV X (As := [.ref (a 37)]) (rest := []) (c_X2_copyFrom l E (sg_off a 30) (sg_off σ 30) (sg_off a 37) (sg_off σ 37) hz10) pv_X2_copyFrom ml_X8_250 ⟨rfl, rfl⟩ ⟨(Nat.le_of_ble_eq_true rfl), (Nat.le_of_ble_eq_true rfl)⟩ hP hD hS (wX8_b_0_30_0_37_X2X2 _ _ _ _) rfl (wX2X2_g0_0 _ _ _ _ _) rfl (wX8_p_0_30_0_37_X2X2 _ _ _ _ _) rfl hl.1 rfl (Nat.le_of_ble_eq_true rfl) dX8_back_34 ⟨Nat.le_refl _, Nat.le_refl _⟩ (fun H locs hP hD hS => ?_)
            exact J2 (sg_sp σ 30 3 z10) hf H locs ls hP hD hS (lv_sub hl [0] rfl)
          · have hf := (if_neg c9).symm.trans hf
            exact ob_none hf
      · have hf := (if_pos c4).symm.trans hf
        refine lv_bipush (v := (-2)) hx hb dX8_back_21 (by decide) ?_
        have ho := Option.some.inj hf
        have hv : (-2) = out.1 := by rw [← ho]
        have hw := congrArg (fun o : Int32 × Sg => (wX8 E a o.2 tr)) ho
        exact r_iret X hr hP hS hv hw dX8_back_23
    by_cases c11 : p1 = 0
    · have hf := (if_pos c11).symm.trans hf
      refine r_aldq X hP 33 2 (wX8_g0_33 _ _ _ _) rfl c11 (vin_d rfl) (v := a 34) rfl dX8_back_14 ?_
      refine r_get X hP 34 (wX8_g0_34 _ _ _ _) rfl inc_X2 0 (by decide) fl_X8_253 rfl dX8_back_15 ?_
      exact J1 (σ 34 0) hf H locs ls hP hD hS (lv_sub hl [0, 1] rfl)
    · have hf := (if_neg c11).symm.trans hf
      by_cases c12 : p1 = 1
      · have hf := (if_pos c12).symm.trans hf
        refine r_aldq X hP 33 2 (wX8_g0_33 _ _ _ _) rfl c12 (vin_d rfl) (v := a 37) rfl dX8_back_14 ?_
        refine r_get X hP 37 (wX8_g0_37 _ _ _ _) rfl inc_X2 0 (by decide) fl_X8_253 rfl dX8_back_15 ?_
        exact J1 (σ 37 0) hf H locs ls hP hD hS (lv_sub hl [0, 1] rfl)
      · have hf := (if_neg c12).symm.trans hf
        exact ob_none hf
  · have hf := (if_pos c2).symm.trans hf
    refine lv_iconst (v := (-1)) hx hb dX8_back_7 (by decide) ?_
    have ho := Option.some.inj hf
    have hv : (-1) = out.1 := by rw [← ho]
    have hw := congrArg (fun o : Int32 × Sg => (wX8 E a o.2 tr)) ho
    exact r_iret X hr hP hS hv hw dX8_back_8
def rm_X8_beginAnew : Room := { frames := 5, cells := 0, slots := 0, locals := 117 }
theorem pv_X8_beginAnew : PkV RX8 yX8_beginAnew cX8_beginAnew 2 none 0 := ⟨im_X8_beginAnew, se_X8_beginAnew, ini_X8, cd_X8_beginAnew, by decide +kernel⟩
set_option maxHeartbeats 4000000 in
set_option maxRecDepth 100000 in
theorem c_X8_beginAnew (l : Launch) (E : Ev) (a : Nat → Nat) (σ : Sg) (tr : Int64) {out : Sg} (hf : f_X8_beginAnew σ tr = some out) : MtV l yX8_beginAnew (wl yX8_beginAnew cX8_beginAnew 2 none) rm_X8_beginAnew E [.ref (a 0)] (wX8 E a σ tr) (wX8 E a out tr) := by
  refine mt_of (QQ := (fun A => va_Qv (fun _ : Unit => True) (fun _ t => QW E (wX8 E a out tr) t) A)) (by decide) (Nat.le_of_ble_eq_true rfl) (fun p e s m below meth c A ls X hr hP hD hS hl => ?_)
  have hx := X.1.1
  have hb := X.1.2.1
  have hl : lv_has ls 2 [(0, .ref (a 0))] := hl
  obtain ⟨H, hHe⟩ : ∃ H : Heap, H = s.heap := ⟨_, rfl⟩
  obtain ⟨locs, hLe⟩ : ∃ locs : List Loc, locs = [] := ⟨_, rfl⟩
  have hP : va_P E.1 vwCl (wX8 E a σ tr) H := by rw [hHe]; exact hP
  have hS : va_S A s.heap H locs := by rw [hHe, hLe]; exact hS
  rw [← hLe, show W p l e rm_X8_beginAnew s m ([.ref (a 0)] : List Value).toArray below meth c s.heap locs 0 0 = W p l e rm_X8_beginAnew s m ([.ref (a 0)] : List Value).toArray below meth c H locs 0 0 from by rw [hHe]]
  refine lv_aload_n hx hb dX8_beginAnew_0 rfl (lv_at hl 0 rfl) ?_
  refine r_get X hP 0 (wX8_g0_0 _ _ _ _) rfl inc_X8 3 (by decide) fl_X8_31 rfl dX8_beginAnew_1 ?_
  refine lv_aload_n hx hb dX8_beginAnew_4 rfl (lv_at hl 0 rfl) ?_
  refine r_get X hP 0 (wX8_g0_0 _ _ _ _) rfl inc_X8 2 (by decide) fl_X8_24 rfl dX8_beginAnew_5 ?_
  refine r_get X hP 9 (wX8_g0_9 _ _ _ _) rfl inc_X1 0 (by decide) fl_X8_257 rfl dX8_beginAnew_8 ?_
  refine lv_aload_n hx hb dX8_beginAnew_11 rfl (lv_at hl 0 rfl) ?_
  refine r_get X hP 0 (wX8_g0_0 _ _ _ _) rfl inc_X8 2 (by decide) fl_X8_24 rfl dX8_beginAnew_12 ?_
  refine r_get X hP 9 (wX8_g0_9 _ _ _ _) rfl inc_X1 1 (by decide) fl_X8_258 rfl dX8_beginAnew_15 ?_
  obtain ⟨z1, hz1, hf⟩ := obd hf
  refine cV_putV X (As := [.int (σ 9 0), .int (σ 9 1)]) (rest := []) (c_X3_layFlat l E (sg_off a 14) (sg_off σ 14) (σ 9 0) (σ 9 1) hz1) pv_X3_layFlat ml_X8_259 ⟨rfl, rfl⟩ ⟨(Nat.le_of_ble_eq_true rfl), (Nat.le_of_ble_eq_true rfl)⟩ hP hD hS (wX8_b_0_14_X3 _ _ _ _) rfl (wX3_g0_0 _ _ _) rfl (wX8_p_0_14_X3 _ _ _ _ _) rfl hl.1 rfl (Nat.le_of_ble_eq_true rfl) dX8_beginAnew_18 ⟨Nat.le_refl _, Nat.le_refl _⟩ (fun H locs hP hD hS => ?_)
  refine lv_aload_n hx hb dX8_beginAnew_21 rfl (lv_at hl 0 rfl) ?_
  refine r_get X hP 0 (wX8_g0_0 _ _ _ _) rfl inc_X8 5 (by decide) fl_X8_41 rfl dX8_beginAnew_22 ?_
  refine lv_aload_n hx hb dX8_beginAnew_25 rfl (lv_at hl 0 rfl) ?_
  refine r_get X hP 0 (wX8_g0_0 _ _ _ _) rfl inc_X8 3 (by decide) fl_X8_31 rfl dX8_beginAnew_26 ?_
  obtain ⟨z2, hz2, hf⟩ := obd hf
  refine cV_putV X (As := [.ref (a 14)]) (rest := []) (c_X0_layOut l E (sg_off a 26) (sg_off (sg_sp σ 14 6 z1) 26) (sg_off a 14) (sg_off (sg_sp σ 14 6 z1) 14) hz2) pv_X0_layOut ml_X8_262 ⟨rfl, rfl⟩ ⟨(Nat.le_of_ble_eq_true rfl), (Nat.le_of_ble_eq_true rfl)⟩ hP hD hS (wX8_b_0_26_0_14_X0X3 _ _ _ _) rfl (wX0X3_g0_0 _ _ _ _ _) rfl (wX8_p_0_26_0_14_X0X3 _ _ _ _ _) rfl hl.1 rfl (Nat.le_of_ble_eq_true rfl) dX8_beginAnew_29 ⟨Nat.le_refl _, Nat.le_refl _⟩ (fun H locs hP hD hS => ?_)
  refine lv_aload_n hx hb dX8_beginAnew_32 rfl (lv_at hl 0 rfl) ?_
  refine r_get X hP 0 (wX8_g0_0 _ _ _ _) rfl inc_X8 6 (by decide) fl_X8_48 rfl dX8_beginAnew_33 ?_
  obtain ⟨z3, hz3, hf⟩ := obd hf
  refine cV_putV X (As := []) (rest := []) (c_X2_begin l E (sg_off a 30) (sg_off (sg_sp (sg_sp σ 14 6 z1) 26 4 z2) 30) hz3) pv_X2_begin ml_X8_265 ⟨rfl, rfl⟩ ⟨(Nat.le_of_ble_eq_true rfl), (Nat.le_of_ble_eq_true rfl)⟩ hP hD hS (wX8_b_0_30_X2 _ _ _ _) rfl (wX2_g0_0 _ _ _) rfl (wX8_p_0_30_X2 _ _ _ _ _) rfl hl.1 rfl (Nat.le_of_ble_eq_true rfl) dX8_beginAnew_36 ⟨Nat.le_refl _, Nat.le_refl _⟩ (fun H locs hP hD hS => ?_)
  refine lv_iconst (v := 0) hx hb dX8_beginAnew_39 (by decide) ?_
  refine lv_istore_n (lv' := [(1, .int 0), (0, .ref (a 0))]) hx hb dX8_beginAnew_40 rfl hl (by decide) rfl (fun ls hl => ?_)
  have J1 : ∀ (g4 : Sg), j_X8_beginAnew_1 tr g4 = some out → ∀ (H : Heap) (locs : List Loc) (ls : Array Slot), va_P E.1 vwCl (wX8 E a g4 tr) H → va_D A (wX8 E a g4 tr) → va_S A s.heap H locs → lv_has ls 2 [(0, .ref (a 0))] → W p l e rm_X8_beginAnew s m ([.ref (a 0)] : List Value).toArray below meth c H locs 0 0 (MQ below (va_Qv (fun _ : Unit => True) (fun _ t => QW E (wX8 E a out tr) t) A) ([.ref (a 0)] : List Value).toArray s 0 0 A) (F0 m 62 ls []) := by
    intro g4 hf H locs ls hP hD hS hl
    refine lv_aload_n hx hb dX8_beginAnew_62 rfl (lv_at hl 0 rfl) ?_
    refine r_get X hP 0 (wX8_g0_0 _ _ _ _) rfl inc_X8 8 (by decide) fl_X8_59 rfl dX8_beginAnew_63 ?_
    refine lv_iconst (v := 0) hx hb dX8_beginAnew_66 (by decide) ?_
    refine r_put X hP hD hS 40 (wX8_g0_40 _ _ _ _) rfl inc_X4 tyX4 tyX4_ok nmX4 0 (by decide) fl_X8_221 rfl (ty := .int) rfl rfl rfl (Nat.le_of_ble_eq_true rfl) (wX8_s0_40_0 _ _ _ _ _) dX8_beginAnew_67 (fun H locs hP hD hS => ?_)
    refine lv_aload_n hx hb dX8_beginAnew_70 rfl (lv_at hl 0 rfl) ?_
    obtain ⟨z5, hz5, hf⟩ := obd hf
    refine cV_allV X (As := []) (rest := []) (c_X8_foldAsNowTells l E a (sg_st g4 40 0 0) tr hz5) pv_X8_foldAsNowTells ml_X8_157 ⟨rfl, rfl⟩ ⟨(Nat.le_of_ble_eq_true rfl), (Nat.le_of_ble_eq_true rfl)⟩ hP hD hS (wX8_g0_0 _ _ _ _) rfl (wX8_adr _ _ _ _ _ _) rfl hl.1 rfl (Nat.le_of_ble_eq_true rfl) dX8_beginAnew_71 ⟨Nat.le_refl _, Nat.le_refl _⟩ (fun H locs hP hD hS => ?_)
    have ho := Option.some.inj hf
    have hw := congrArg (fun o : Sg => (wX8 E a o tr)) ho
    exact r_vret X hr hP hS hw dX8_beginAnew_74
  have L9 := lc2_ind (o := out) (step := (s_X8_beginAnew_41 (j_X8_beginAnew_1 tr))) (fun x6 g7 => ∀ (H : Heap) (locs : List Loc) (ls : Array Slot), va_P E.1 vwCl (wX8 E a g7 tr) H → va_D A (wX8 E a g7 tr) → va_S A s.heap H locs → lv_has ls 2 [(0, .ref (a 0)), (1, .int x6)] → W p l e rm_X8_beginAnew s m ([.ref (a 0)] : List Value).toArray below meth c H locs 0 0 (MQ below (va_Qv (fun _ : Unit => True) (fun _ t => QW E (wX8 E a out tr) t) A) ([.ref (a 0)] : List Value).toArray s 0 0 A) (F0 m 41 ls [])) (fun x6 g7 k8 ih9 hf H locs ls hP hD hS hl => by
    refine lv_iload_n hx hb dX8_beginAnew_41 rfl (lv_at hl 1 rfl) ?_
    refine lv_iconst (v := 2) hx hb dX8_beginAnew_42 (by decide) ?_
    refine lv_icmp_ge (tgt := 62) hx hb dX8_beginAnew_43 (by decide) (fun c10 => ?_) (fun c10 => ?_)
    · have hf := (if_pos c10).symm.trans hf
      exact J1 g7 hf H locs ls hP hD hS (lv_sub hl [0] rfl)
    · have hf := (if_neg c10).symm.trans hf
      refine lv_aload_n hx hb dX8_beginAnew_46 rfl (lv_at hl 0 rfl) ?_
      refine r_get X hP 0 (wX8_g0_0 _ _ _ _) rfl inc_X8 7 (by decide) fl_X8_52 rfl dX8_beginAnew_47 ?_
      refine lv_iload_n hx hb dX8_beginAnew_50 rfl (lv_at hl 1 rfl) ?_
      by_cases c11 : x6 = 0
      · have hf := (if_pos c11).symm.trans hf
        refine r_aldq X hP 33 2 (wX8_g0_33 _ _ _ _) rfl c11 (vin_d rfl) (v := a 34) rfl dX8_beginAnew_51 ?_
        refine lv_iconst (v := 0) hx hb dX8_beginAnew_52 (by decide) ?_
        refine r_put X hP hD hS 34 (wX8_g0_34 _ _ _ _) rfl inc_X2 tyX2 tyX2_ok nmX2 0 (by decide) fl_X8_253 rfl (ty := .boolean) rfl rfl rfl (Nat.le_of_ble_eq_true rfl) (wX8_s0_34_0 _ _ _ _ _) dX8_beginAnew_53 (fun H locs hP hD hS => ?_)
        refine lv_iinc (v := (x6 + 1)) (lv' := [(1, .int (x6 + 1)), (0, .ref (a 0))]) hx hb dX8_beginAnew_56 hl (k := 1) rfl rfl (by decide) rfl (fun ls hl => ?_)
        refine lv_goto (tgt := 41) hx hb dX8_beginAnew_59 (by decide) ?_
        exact ih9 (x6 + 1) (sg_st g7 34 0 0) hf H locs ls hP hD hS (lv_sub hl [1, 0] rfl)
      · have hf := (if_neg c11).symm.trans hf
        by_cases c12 : x6 = 1
        · have hf := (if_pos c12).symm.trans hf
          refine r_aldq X hP 33 2 (wX8_g0_33 _ _ _ _) rfl c12 (vin_d rfl) (v := a 37) rfl dX8_beginAnew_51 ?_
          refine lv_iconst (v := 0) hx hb dX8_beginAnew_52 (by decide) ?_
          refine r_put X hP hD hS 37 (wX8_g0_37 _ _ _ _) rfl inc_X2 tyX2 tyX2_ok nmX2 0 (by decide) fl_X8_253 rfl (ty := .boolean) rfl rfl rfl (Nat.le_of_ble_eq_true rfl) (wX8_s0_37_0 _ _ _ _ _) dX8_beginAnew_53 (fun H locs hP hD hS => ?_)
          refine lv_iinc (v := (x6 + 1)) (lv' := [(1, .int (x6 + 1)), (0, .ref (a 0))]) hx hb dX8_beginAnew_56 hl (k := 1) rfl rfl (by decide) rfl (fun ls hl => ?_)
          refine lv_goto (tgt := 41) hx hb dX8_beginAnew_59 (by decide) ?_
          exact ih9 (x6 + 1) (sg_st g7 37 0 0) hf H locs ls hP hD hS (lv_sub hl [1, 0] rfl)
        · have hf := (if_neg c12).symm.trans hf
          exact ob_none hf)
  exact L9 1000 0 (sg_sp (sg_sp (sg_sp σ 14 6 z1) 26 4 z2) 30 3 z3) hf H locs ls hP hD hS (lv_sub hl [1, 0] rfl)
def rm_X8_bent : Room := { frames := 2, cells := 0, slots := 0, locals := 46 }
theorem pv_X8_bent : PkV RX8 yX8_bent cX8_bent 4 (some .int) 2 := ⟨im_X8_bent, se_X8_bent, ini_X8, cd_X8_bent, by decide +kernel⟩
set_option maxHeartbeats 4000000 in
set_option maxRecDepth 100000 in
theorem c_X8_bent (l : Launch) (E : Ev) (a : Nat → Nat) (σ : Sg) (tr : Int64) (p1 : Int32) (p2 : Int32) {out : Int32} (hf : f_X8_bent σ tr p1 p2 = some out) : MtI l yX8_bent (wl yX8_bent cX8_bent 4 (some .int)) rm_X8_bent E [.ref (a 0), .int p1, .int p2] (wX8 E a σ tr) out (wX8 E a σ tr) := by
  refine mt_of (QQ := (fun A => va_Qi (fun x (_ : Unit) => x = out) (fun _ t => QW E (wX8 E a σ tr) t) A)) (by decide) (Nat.le_of_ble_eq_true rfl) (fun p e s m below meth c A ls X hr hP hD hS hl => ?_)
  have hx := X.1.1
  have hb := X.1.2.1
  have hl : lv_has ls 4 [(0, .ref (a 0)), (1, .int p1), (2, .int p2)] := hl
  obtain ⟨H, hHe⟩ : ∃ H : Heap, H = s.heap := ⟨_, rfl⟩
  obtain ⟨locs, hLe⟩ : ∃ locs : List Loc, locs = [] := ⟨_, rfl⟩
  have hP : va_P E.1 vwCl (wX8 E a σ tr) H := by rw [hHe]; exact hP
  have hS : va_S A s.heap H locs := by rw [hHe, hLe]; exact hS
  rw [← hLe, show W p l e rm_X8_bent s m ([.ref (a 0), .int p1, .int p2] : List Value).toArray below meth c s.heap locs 0 0 = W p l e rm_X8_bent s m ([.ref (a 0), .int p1, .int p2] : List Value).toArray below meth c H locs 0 0 from by rw [hHe]]
  refine lv_aload_n hx hb dX8_bent_0 rfl (lv_at hl 0 rfl) ?_
  refine r_get X hP 0 (wX8_g0_0 _ _ _ _) rfl inc_X8 5 (by decide) fl_X8_41 rfl dX8_bent_1 ?_
  refine lv_iload_n hx hb dX8_bent_4 rfl (lv_at hl 1 rfl) ?_
  refine lv_iload_n hx hb dX8_bent_5 rfl (lv_at hl 2 rfl) ?_
  obtain ⟨z1, hz1, hf⟩ := obd hf
  refine cV_roI X (As := [.int p1, .int p2]) (rest := []) (c_X0_find l E (sg_off a 26) (sg_off σ 26) p1 p2 hz1) pv_X0_find ml_X8_167 ⟨rfl, rfl⟩ ⟨(Nat.le_of_ble_eq_true rfl), (Nat.le_of_ble_eq_true rfl)⟩ hP hD hS (wX8_b_0_26_X0 _ _ _ _) rfl (wX0_g0_0 _ _ _) rfl rfl hl.1 rfl (Nat.le_of_ble_eq_true rfl) dX8_bent_6 ⟨Nat.le_refl _, Nat.le_refl _⟩ (fun H locs hP hS => ?_)
  refine lv_istore_n (lv' := [(3, .int z1), (0, .ref (a 0)), (1, .int p1), (2, .int p2)]) hx hb dX8_bent_9 rfl hl (by decide) rfl (fun ls hl => ?_)
  refine lv_iload_n hx hb dX8_bent_10 rfl (lv_at hl 0 rfl) ?_
  refine lv_bipush (v := (-9)) hx hb dX8_bent_11 (by decide) ?_
  refine lv_icmp_ne (tgt := 20) hx hb dX8_bent_13 (by decide) (fun c2 => ?_) (fun c2 => ?_)
  · have hf := (if_neg c2).symm.trans hf
    refine lv_aload_n hx hb dX8_bent_20 rfl (lv_at hl 1 rfl) ?_
    refine r_get X hP 0 (wX8_g0_0 _ _ _ _) rfl inc_X8 5 (by decide) fl_X8_41 rfl dX8_bent_21 ?_
    refine r_get X hP 26 (wX8_g0_26 _ _ _ _) rfl inc_X0 3 (by decide) fl_X8_171 rfl dX8_bent_24 ?_
    refine lv_iload_n hx hb dX8_bent_27 rfl (lv_at hl 0 rfl) ?_
    obtain ⟨h3, hf⟩ := chk_in hf
    refine r_iald X hP 29 (wX8_g0_29 _ _ _ _) h3 dX8_bent_28 ?_
    have ho := Option.some.inj hf
    exact r_iret X hr hP hS ho rfl dX8_bent_29
  · have hf := (if_pos c2).symm.trans hf
    refine lv_iconst (v := (-1)) hx hb dX8_bent_16 (by decide) ?_
    refine lv_goto (tgt := 29) hx hb dX8_bent_17 (by decide) ?_
    have ho := Option.some.inj hf
    exact r_iret X hr hP hS ho rfl dX8_bent_29
def rm_X8_cell : Room := { frames := 3, cells := 0, slots := 0, locals := 68 }
theorem pv_X8_cell : PkV RX8 yX8_cell cX8_cell 3 (some .int) 2 := ⟨im_X8_cell, se_X8_cell, ini_X8, cd_X8_cell, by decide +kernel⟩
set_option maxHeartbeats 4000000 in
set_option maxRecDepth 100000 in
theorem c_X8_cell (l : Launch) (E : Ev) (a : Nat → Nat) (σ : Sg) (tr : Int64) (p1 : Int32) (p2 : Int32) {out : Int32} (hf : f_X8_cell σ tr p1 p2 = some out) : MtI l yX8_cell (wl yX8_cell cX8_cell 3 (some .int)) rm_X8_cell E [.ref (a 0), .int p1, .int p2] (wX8 E a σ tr) out (wX8 E a σ tr) := by
  refine mt_of (QQ := (fun A => va_Qi (fun x (_ : Unit) => x = out) (fun _ t => QW E (wX8 E a σ tr) t) A)) (by decide) (Nat.le_of_ble_eq_true rfl) (fun p e s m below meth c A ls X hr hP hD hS hl => ?_)
  have hx := X.1.1
  have hb := X.1.2.1
  have hl : lv_has ls 3 [(0, .ref (a 0)), (1, .int p1), (2, .int p2)] := hl
  obtain ⟨H, hHe⟩ : ∃ H : Heap, H = s.heap := ⟨_, rfl⟩
  obtain ⟨locs, hLe⟩ : ∃ locs : List Loc, locs = [] := ⟨_, rfl⟩
  have hP : va_P E.1 vwCl (wX8 E a σ tr) H := by rw [hHe]; exact hP
  have hS : va_S A s.heap H locs := by rw [hHe, hLe]; exact hS
  rw [← hLe, show W p l e rm_X8_cell s m ([.ref (a 0), .int p1, .int p2] : List Value).toArray below meth c s.heap locs 0 0 = W p l e rm_X8_cell s m ([.ref (a 0), .int p1, .int p2] : List Value).toArray below meth c H locs 0 0 from by rw [hHe]]
  refine lv_aload_n hx hb dX8_cell_0 rfl (lv_at hl 0 rfl) ?_
  refine lv_iload_n hx hb dX8_cell_1 rfl (lv_at hl 1 rfl) ?_
  obtain ⟨z1, hz1, hf⟩ := obd hf
  refine cV_allI X (As := [.int p1]) (rest := []) (c_X8_isCell l E a σ tr p1 hz1) pv_X8_isCell ml_X8_104 ⟨rfl, rfl⟩ ⟨(Nat.le_of_ble_eq_true rfl), (Nat.le_of_ble_eq_true rfl)⟩ hP hD hS (wX8_g0_0 _ _ _ _) rfl (wX8_adr _ _ _ _ _ _) rfl hl.1 rfl (Nat.le_of_ble_eq_true rfl) dX8_cell_2 ⟨Nat.le_refl _, Nat.le_refl _⟩ (fun H locs hP hD hS => ?_)
  refine lv_if_ne (tgt := 10) hx hb dX8_cell_5 (by decide) (fun c2 => ?_) (fun c2 => ?_)
  · have hf := (if_neg c2).symm.trans hf
    refine lv_iload_n hx hb dX8_cell_10 rfl (lv_at hl 2 rfl) ?_
    by_cases c3 : p2 = 0
    · have hf := (if_pos c3).symm.trans hf
      refine lv_tableIn (off := 37) (tgt := 48) hx hb dX8_cell_11 (by rw [c3]; decide) (by rw [c3]; decide) (by rw [c3]; rfl) (by decide) ?_
      refine lv_aload_n hx hb dX8_cell_48 rfl (lv_at hl 0 rfl) ?_
      refine r_get X hP 0 (wX8_g0_0 _ _ _ _) rfl inc_X8 4 (by decide) fl_X8_35 rfl dX8_cell_49 ?_
      refine r_get X hP 20 (wX8_g0_20 _ _ _ _) rfl inc_X3 3 (by decide) fl_X8_108 rfl dX8_cell_52 ?_
      refine lv_iload_n hx hb dX8_cell_55 rfl (lv_at hl 1 rfl) ?_
      obtain ⟨h4, hf⟩ := chk_in hf
      refine r_iald X hP 21 (wX8_g0_21 _ _ _ _) h4 dX8_cell_56 ?_
      have ho := Option.some.inj hf
      exact r_iret X hr hP hS ho rfl dX8_cell_57
    · have hf := (if_neg c3).symm.trans hf
      by_cases c5 : p2 = 1
      · have hf := (if_pos c5).symm.trans hf
        refine lv_tableIn (off := 47) (tgt := 58) hx hb dX8_cell_11 (by rw [c5]; decide) (by rw [c5]; decide) (by rw [c5]; rfl) (by decide) ?_
        refine lv_aload_n hx hb dX8_cell_58 rfl (lv_at hl 0 rfl) ?_
        refine r_get X hP 0 (wX8_g0_0 _ _ _ _) rfl inc_X8 4 (by decide) fl_X8_35 rfl dX8_cell_59 ?_
        refine r_get X hP 20 (wX8_g0_20 _ _ _ _) rfl inc_X3 4 (by decide) fl_X8_112 rfl dX8_cell_62 ?_
        refine lv_iload_n hx hb dX8_cell_65 rfl (lv_at hl 1 rfl) ?_
        obtain ⟨h6, hf⟩ := chk_in hf
        refine r_iald X hP 22 (wX8_g0_22 _ _ _ _) h6 dX8_cell_66 ?_
        have ho := Option.some.inj hf
        exact r_iret X hr hP hS ho rfl dX8_cell_67
      · have hf := (if_neg c5).symm.trans hf
        by_cases c7 : p2 = 2
        · have hf := (if_pos c7).symm.trans hf
          refine lv_tableIn (off := 57) (tgt := 68) hx hb dX8_cell_11 (by rw [c7]; decide) (by rw [c7]; decide) (by rw [c7]; rfl) (by decide) ?_
          refine lv_aload_n hx hb dX8_cell_68 rfl (lv_at hl 0 rfl) ?_
          refine r_get X hP 0 (wX8_g0_0 _ _ _ _) rfl inc_X8 4 (by decide) fl_X8_35 rfl dX8_cell_69 ?_
          refine r_get X hP 20 (wX8_g0_20 _ _ _ _) rfl inc_X3 5 (by decide) fl_X8_115 rfl dX8_cell_72 ?_
          refine lv_iload_n hx hb dX8_cell_75 rfl (lv_at hl 1 rfl) ?_
          obtain ⟨h8, hf⟩ := chk_in hf
          refine r_iald X hP 23 (wX8_g0_23 _ _ _ _) h8 dX8_cell_76 ?_
          have ho := Option.some.inj hf
          exact r_iret X hr hP hS ho rfl dX8_cell_77
        · have hf := (if_neg c7).symm.trans hf
          by_cases c9 : p2 = 3
          · have hf := (if_pos c9).symm.trans hf
            refine lv_tableIn (off := 67) (tgt := 78) hx hb dX8_cell_11 (by rw [c9]; decide) (by rw [c9]; decide) (by rw [c9]; rfl) (by decide) ?_
            refine lv_aload_n hx hb dX8_cell_78 rfl (lv_at hl 0 rfl) ?_
            refine r_get X hP 0 (wX8_g0_0 _ _ _ _) rfl inc_X8 4 (by decide) fl_X8_35 rfl dX8_cell_79 ?_
            refine r_get X hP 20 (wX8_g0_20 _ _ _ _) rfl inc_X3 6 (by decide) fl_X8_118 rfl dX8_cell_82 ?_
            refine lv_iload_n hx hb dX8_cell_85 rfl (lv_at hl 1 rfl) ?_
            obtain ⟨h10, hf⟩ := chk_in hf
            refine r_iald X hP 24 (wX8_g0_24 _ _ _ _) h10 dX8_cell_86 ?_
            have ho := Option.some.inj hf
            exact r_iret X hr hP hS ho rfl dX8_cell_87
          · have hf := (if_neg c9).symm.trans hf
            by_cases c11 : p2 = 4
            · have hf := (if_pos c11).symm.trans hf
              refine lv_tableIn (off := 77) (tgt := 88) hx hb dX8_cell_11 (by rw [c11]; decide) (by rw [c11]; decide) (by rw [c11]; rfl) (by decide) ?_
              refine lv_aload_n hx hb dX8_cell_88 rfl (lv_at hl 0 rfl) ?_
              refine r_get X hP 0 (wX8_g0_0 _ _ _ _) rfl inc_X8 2 (by decide) fl_X8_24 rfl dX8_cell_89 ?_
              refine r_get X hP 9 (wX8_g0_9 _ _ _ _) rfl inc_X1 3 (by decide) fl_X8_121 rfl dX8_cell_92 ?_
              refine lv_iload_n hx hb dX8_cell_95 rfl (lv_at hl 1 rfl) ?_
              obtain ⟨h12, hf⟩ := chk_in hf
              refine r_iald X hP 10 (wX8_g0_10 _ _ _ _) h12 dX8_cell_96 ?_
              have ho := Option.some.inj hf
              exact r_iret X hr hP hS ho rfl dX8_cell_97
            · have hf := (if_neg c11).symm.trans hf
              by_cases c13 : p2 = 5
              · have hf := (if_pos c13).symm.trans hf
                refine lv_tableIn (off := 87) (tgt := 98) hx hb dX8_cell_11 (by rw [c13]; decide) (by rw [c13]; decide) (by rw [c13]; rfl) (by decide) ?_
                refine lv_aload_n hx hb dX8_cell_98 rfl (lv_at hl 0 rfl) ?_
                refine r_get X hP 0 (wX8_g0_0 _ _ _ _) rfl inc_X8 4 (by decide) fl_X8_35 rfl dX8_cell_99 ?_
                refine lv_iload_n hx hb dX8_cell_102 rfl (lv_at hl 1 rfl) ?_
                refine lv_aload_n hx hb dX8_cell_103 rfl (lv_at hl 0 rfl) ?_
                refine r_get X hP 0 (wX8_g0_0 _ _ _ _) rfl inc_X8 2 (by decide) fl_X8_24 rfl dX8_cell_104 ?_
                refine r_get X hP 9 (wX8_g0_9 _ _ _ _) rfl inc_X1 3 (by decide) fl_X8_121 rfl dX8_cell_107 ?_
                obtain ⟨z14, hz14, hf⟩ := obd hf
                refine cV_roI X (As := [.int p1, .ref (a 10)]) (rest := []) (c_X3_gainOf l E (sg_off a 20) (sg_off σ 20) (sg_off a 10) (sg_off σ 10) p1 hz14) pv_X3_gainOf ml_X8_124 ⟨rfl, rfl⟩ ⟨(Nat.le_of_ble_eq_true rfl), (Nat.le_of_ble_eq_true rfl)⟩ hP hD hS (wX8_b_0_20_0_10_X3AI16 _ _ _ _) rfl (wX3AI16_g0_0 _ _ _ _ _) rfl rfl hl.1 rfl (Nat.le_of_ble_eq_true rfl) dX8_cell_110 ⟨Nat.le_refl _, Nat.le_refl _⟩ (fun H locs hP hS => ?_)
                have ho := Option.some.inj hf
                exact r_iret X hr hP hS ho rfl dX8_cell_113
              · have hf := (if_neg c13).symm.trans hf
                refine lv_tableOut (tgt := 114) hx hb dX8_cell_11 (tsw_out (fun j h1 h2 he => by
                  have h3 : j = 0 ∨ j = 1 ∨ j = 2 ∨ j = 3 ∨ j = 4 ∨ j = 5 := by omega
                  rcases h3 with rfl | rfl | rfl | rfl | rfl | rfl
                  · exact c3 he
                  · exact c5 he
                  · exact c7 he
                  · exact c9 he
                  · exact c11 he
                  · exact c13 he)) (by decide) ?_
                refine lv_iconst (v := (-1)) hx hb dX8_cell_114 (by decide) ?_
                have ho := Option.some.inj hf
                exact r_iret X hr hP hS ho rfl dX8_cell_115
  · have hf := (if_pos c2).symm.trans hf
    refine lv_iconst (v := (-1)) hx hb dX8_cell_8 (by decide) ?_
    have ho := Option.some.inj hf
    exact r_iret X hr hP hS ho rfl dX8_cell_9
def rm_X8_clear : Room := { frames := 0, cells := 0, slots := 0, locals := 0 }
theorem pv_X8_clear : PkV RX8 yX8_clear cX8_clear 2 (some .int) 0 := ⟨im_X8_clear, se_X8_clear, ini_X8, cd_X8_clear, by decide +kernel⟩
set_option maxHeartbeats 4000000 in
set_option maxRecDepth 100000 in
theorem c_X8_clear (l : Launch) (E : Ev) (a : Nat → Nat) (σ : Sg) (tr : Int64) {out : Int32 × Sg} (hf : f_X8_clear σ tr = some out) : MtI l yX8_clear (wl yX8_clear cX8_clear 2 (some .int)) rm_X8_clear E [.ref (a 0)] (wX8 E a σ tr) out.1 (wX8 E a out.2 tr) := by
  refine mt_of (QQ := (fun A => va_Qi (fun x (_ : Unit) => x = out.1) (fun _ t => QW E (wX8 E a out.2 tr) t) A)) (by decide) (Nat.le_of_ble_eq_true rfl) (fun p e s m below meth c A ls X hr hP hD hS hl => ?_)
  have hx := X.1.1
  have hb := X.1.2.1
  have hl : lv_has ls 2 [(0, .ref (a 0))] := hl
  obtain ⟨H, hHe⟩ : ∃ H : Heap, H = s.heap := ⟨_, rfl⟩
  obtain ⟨locs, hLe⟩ : ∃ locs : List Loc, locs = [] := ⟨_, rfl⟩
  have hP : va_P E.1 vwCl (wX8 E a σ tr) H := by rw [hHe]; exact hP
  have hS : va_S A s.heap H locs := by rw [hHe, hLe]; exact hS
  rw [← hLe, show W p l e rm_X8_clear s m ([.ref (a 0)] : List Value).toArray below meth c s.heap locs 0 0 = W p l e rm_X8_clear s m ([.ref (a 0)] : List Value).toArray below meth c H locs 0 0 from by rw [hHe]]
  refine lv_aload_n hx hb dX8_clear_0 rfl (lv_at hl 0 rfl) ?_
  refine r_get X hP 0 (wX8_g0_0 _ _ _ _) rfl inc_X8 1 (by decide) fl_X8_20 rfl dX8_clear_1 ?_
  refine r_get X hP 2 (wX8_g0_2 _ _ _ _) rfl inc_X7 0 (by decide) fl_X8_77 rfl dX8_clear_4 ?_
  refine lv_istore_n (lv' := [(1, .int (σ 2 0)), (0, .ref (a 0))]) hx hb dX8_clear_7 rfl hl (by decide) rfl (fun ls hl => ?_)
  refine lv_aload_n hx hb dX8_clear_8 rfl (lv_at hl 1 rfl) ?_
  refine r_get X hP 0 (wX8_g0_0 _ _ _ _) rfl inc_X8 1 (by decide) fl_X8_20 rfl dX8_clear_9 ?_
  refine lv_iconst (v := 0) hx hb dX8_clear_12 (by decide) ?_
  refine r_put X hP hD hS 2 (wX8_g0_2 _ _ _ _) rfl inc_X7 tyX7 tyX7_ok nmX7 0 (by decide) fl_X8_77 rfl (ty := .int) rfl rfl rfl (Nat.le_of_ble_eq_true rfl) (wX8_s0_2_0 _ _ _ _ _) dX8_clear_13 (fun H locs hP hD hS => ?_)
  refine lv_iload_n hx hb dX8_clear_16 rfl (lv_at hl 0 rfl) ?_
  have ho := Option.some.inj hf
  have hv : (σ 2 0) = out.1 := by rw [← ho]
  have hw := congrArg (fun o : Int32 × Sg => (wX8 E a o.2 tr)) ho
  exact r_iret X hr hP hS hv hw dX8_clear_17
def rm_X8_count : Room := { frames := 0, cells := 0, slots := 0, locals := 0 }
theorem pv_X8_count : PkV RX8 yX8_count cX8_count 2 (some .int) 1 := ⟨im_X8_count, se_X8_count, ini_X8, cd_X8_count, by decide +kernel⟩
set_option maxHeartbeats 4000000 in
set_option maxRecDepth 100000 in
theorem c_X8_count (l : Launch) (E : Ev) (a : Nat → Nat) (σ : Sg) (tr : Int64) (p1 : Int32) {out : Int32} (hf : f_X8_count σ tr p1 = some out) : MtI l yX8_count (wl yX8_count cX8_count 2 (some .int)) rm_X8_count E [.ref (a 0), .int p1] (wX8 E a σ tr) out (wX8 E a σ tr) := by
  refine mt_of (QQ := (fun A => va_Qi (fun x (_ : Unit) => x = out) (fun _ t => QW E (wX8 E a σ tr) t) A)) (by decide) (Nat.le_of_ble_eq_true rfl) (fun p e s m below meth c A ls X hr hP hD hS hl => ?_)
  have hx := X.1.1
  have hb := X.1.2.1
  have hl : lv_has ls 2 [(0, .ref (a 0)), (1, .int p1)] := hl
  obtain ⟨H, hHe⟩ : ∃ H : Heap, H = s.heap := ⟨_, rfl⟩
  obtain ⟨locs, hLe⟩ : ∃ locs : List Loc, locs = [] := ⟨_, rfl⟩
  have hP : va_P E.1 vwCl (wX8 E a σ tr) H := by rw [hHe]; exact hP
  have hS : va_S A s.heap H locs := by rw [hHe, hLe]; exact hS
  rw [← hLe, show W p l e rm_X8_count s m ([.ref (a 0), .int p1] : List Value).toArray below meth c s.heap locs 0 0 = W p l e rm_X8_count s m ([.ref (a 0), .int p1] : List Value).toArray below meth c H locs 0 0 from by rw [hHe]]
  refine lv_iload_n hx hb dX8_count_0 rfl (lv_at hl 1 rfl) ?_
  by_cases c1 : p1 = 0
  · have hf := (if_pos c1).symm.trans hf
    refine lv_tableIn (off := 47) (tgt := 48) hx hb dX8_count_1 (by rw [c1]; decide) (by rw [c1]; decide) (by rw [c1]; rfl) (by decide) ?_
    refine lv_aload_n hx hb dX8_count_48 rfl (lv_at hl 0 rfl) ?_
    refine r_get X hP 0 (wX8_g0_0 _ _ _ _) rfl inc_X8 2 (by decide) fl_X8_24 rfl dX8_count_49 ?_
    refine r_get X hP 9 (wX8_g0_9 _ _ _ _) rfl inc_X1 0 (by decide) fl_X8_257 rfl dX8_count_52 ?_
    have ho := Option.some.inj hf
    exact r_iret X hr hP hS ho rfl dX8_count_55
  · have hf := (if_neg c1).symm.trans hf
    by_cases c2 : p1 = 1
    · have hf := (if_pos c2).symm.trans hf
      refine lv_tableIn (off := 55) (tgt := 56) hx hb dX8_count_1 (by rw [c2]; decide) (by rw [c2]; decide) (by rw [c2]; rfl) (by decide) ?_
      refine lv_aload_n hx hb dX8_count_56 rfl (lv_at hl 0 rfl) ?_
      refine r_get X hP 0 (wX8_g0_0 _ _ _ _) rfl inc_X8 2 (by decide) fl_X8_24 rfl dX8_count_57 ?_
      refine r_get X hP 9 (wX8_g0_9 _ _ _ _) rfl inc_X1 1 (by decide) fl_X8_258 rfl dX8_count_60 ?_
      have ho := Option.some.inj hf
      exact r_iret X hr hP hS ho rfl dX8_count_63
    · have hf := (if_neg c2).symm.trans hf
      by_cases c3 : p1 = 2
      · have hf := (if_pos c3).symm.trans hf
        refine lv_tableIn (off := 63) (tgt := 64) hx hb dX8_count_1 (by rw [c3]; decide) (by rw [c3]; decide) (by rw [c3]; rfl) (by decide) ?_
        refine lv_aload_n hx hb dX8_count_64 rfl (lv_at hl 0 rfl) ?_
        refine r_get X hP 0 (wX8_g0_0 _ _ _ _) rfl inc_X8 2 (by decide) fl_X8_24 rfl dX8_count_65 ?_
        refine r_get X hP 9 (wX8_g0_9 _ _ _ _) rfl inc_X1 4 (by decide) fl_X8_187 rfl dX8_count_68 ?_
        refine r_get X hP 11 (wX8_g0_11 _ _ _ _) rfl inc_X4 0 (by decide) fl_X8_221 rfl dX8_count_71 ?_
        have ho := Option.some.inj hf
        exact r_iret X hr hP hS ho rfl dX8_count_74
      · have hf := (if_neg c3).symm.trans hf
        by_cases c4 : p1 = 3
        · have hf := (if_pos c4).symm.trans hf
          refine lv_tableIn (off := 74) (tgt := 75) hx hb dX8_count_1 (by rw [c4]; decide) (by rw [c4]; decide) (by rw [c4]; rfl) (by decide) ?_
          refine lv_aload_n hx hb dX8_count_75 rfl (lv_at hl 0 rfl) ?_
          refine r_get X hP 0 (wX8_g0_0 _ _ _ _) rfl inc_X8 2 (by decide) fl_X8_24 rfl dX8_count_76 ?_
          refine r_get X hP 9 (wX8_g0_9 _ _ _ _) rfl inc_X1 2 (by decide) fl_X8_137 rfl dX8_count_79 ?_
          have ho := Option.some.inj hf
          exact r_iret X hr hP hS ho rfl dX8_count_82
        · have hf := (if_neg c4).symm.trans hf
          by_cases c5 : p1 = 4
          · have hf := (if_pos c5).symm.trans hf
            refine lv_tableIn (off := 82) (tgt := 83) hx hb dX8_count_1 (by rw [c5]; decide) (by rw [c5]; decide) (by rw [c5]; rfl) (by decide) ?_
            refine lv_aload_n hx hb dX8_count_83 rfl (lv_at hl 0 rfl) ?_
            refine r_get X hP 0 (wX8_g0_0 _ _ _ _) rfl inc_X8 8 (by decide) fl_X8_59 rfl dX8_count_84 ?_
            refine r_get X hP 40 (wX8_g0_40 _ _ _ _) rfl inc_X4 0 (by decide) fl_X8_221 rfl dX8_count_87 ?_
            have ho := Option.some.inj hf
            exact r_iret X hr hP hS ho rfl dX8_count_90
          · have hf := (if_neg c5).symm.trans hf
            by_cases c6 : p1 = 5
            · have hf := (if_pos c6).symm.trans hf
              refine lv_tableIn (off := 90) (tgt := 91) hx hb dX8_count_1 (by rw [c6]; decide) (by rw [c6]; decide) (by rw [c6]; rfl) (by decide) ?_
              refine lv_aload_n hx hb dX8_count_91 rfl (lv_at hl 0 rfl) ?_
              refine r_get X hP 0 (wX8_g0_0 _ _ _ _) rfl inc_X8 6 (by decide) fl_X8_48 rfl dX8_count_92 ?_
              refine r_get X hP 30 (wX8_g0_30 _ _ _ _) rfl inc_X2 1 (by decide) fl_X8_164 rfl dX8_count_95 ?_
              have ho := Option.some.inj hf
              exact r_iret X hr hP hS ho rfl dX8_count_98
            · have hf := (if_neg c6).symm.trans hf
              by_cases c7 : p1 = 6
              · have hf := (if_pos c7).symm.trans hf
                refine lv_tableIn (off := 98) (tgt := 99) hx hb dX8_count_1 (by rw [c7]; decide) (by rw [c7]; decide) (by rw [c7]; rfl) (by decide) ?_
                refine lv_aload_n hx hb dX8_count_99 rfl (lv_at hl 0 rfl) ?_
                refine r_get X hP 0 (wX8_g0_0 _ _ _ _) rfl inc_X8 6 (by decide) fl_X8_48 rfl dX8_count_100 ?_
                refine r_get X hP 30 (wX8_g0_30 _ _ _ _) rfl inc_X2 2 (by decide) fl_X8_154 rfl dX8_count_103 ?_
                have ho := Option.some.inj hf
                exact r_iret X hr hP hS ho rfl dX8_count_106
              · have hf := (if_neg c7).symm.trans hf
                by_cases c8 : p1 = 7
                · have hf := (if_pos c8).symm.trans hf
                  refine lv_tableIn (off := 106) (tgt := 107) hx hb dX8_count_1 (by rw [c8]; decide) (by rw [c8]; decide) (by rw [c8]; rfl) (by decide) ?_
                  refine lv_aload_n hx hb dX8_count_107 rfl (lv_at hl 0 rfl) ?_
                  refine r_get X hP 0 (wX8_g0_0 _ _ _ _) rfl inc_X8 1 (by decide) fl_X8_20 rfl dX8_count_108 ?_
                  refine r_get X hP 2 (wX8_g0_2 _ _ _ _) rfl inc_X7 0 (by decide) fl_X8_77 rfl dX8_count_111 ?_
                  have ho := Option.some.inj hf
                  exact r_iret X hr hP hS ho rfl dX8_count_114
                · have hf := (if_neg c8).symm.trans hf
                  refine lv_tableOut (tgt := 115) hx hb dX8_count_1 (tsw_out (fun j h1 h2 he => by
                    have h3 : j = 0 ∨ j = 1 ∨ j = 2 ∨ j = 3 ∨ j = 4 ∨ j = 5 ∨ j = 6 ∨ j = 7 := by omega
                    rcases h3 with rfl | rfl | rfl | rfl | rfl | rfl | rfl | rfl
                    · exact c1 he
                    · exact c2 he
                    · exact c3 he
                    · exact c4 he
                    · exact c5 he
                    · exact c6 he
                    · exact c7 he
                    · exact c8 he)) (by decide) ?_
                  refine lv_iconst (v := (-1)) hx hb dX8_count_115 (by decide) ?_
                  have ho := Option.some.inj hf
                  exact r_iret X hr hP hS ho rfl dX8_count_116
def rm_X8_day : Room := { frames := 5, cells := 0, slots := 0, locals := 117 }
theorem pv_X8_day : PkV RX8 yX8_day cX8_day 1 (some .int) 0 := ⟨im_X8_day, se_X8_day, ini_X8, cd_X8_day, by decide +kernel⟩
set_option maxHeartbeats 4000000 in
set_option maxRecDepth 100000 in
theorem c_X8_day (l : Launch) (E : Ev) (a : Nat → Nat) (σ : Sg) (tr : Int64) {out : Int32 × Sg} (hf : f_X8_day σ tr = some out) : MtI l yX8_day (wl yX8_day cX8_day 1 (some .int)) rm_X8_day E [.ref (a 0)] (wX8 E a σ tr) out.1 (wX8 E a out.2 tr) := by
  refine mt_of (QQ := (fun A => va_Qi (fun x (_ : Unit) => x = out.1) (fun _ t => QW E (wX8 E a out.2 tr) t) A)) (by decide) (Nat.le_of_ble_eq_true rfl) (fun p e s m below meth c A ls X hr hP hD hS hl => ?_)
  have hx := X.1.1
  have hb := X.1.2.1
  have hl : lv_has ls 1 [(0, .ref (a 0))] := hl
  obtain ⟨H, hHe⟩ : ∃ H : Heap, H = s.heap := ⟨_, rfl⟩
  obtain ⟨locs, hLe⟩ : ∃ locs : List Loc, locs = [] := ⟨_, rfl⟩
  have hP : va_P E.1 vwCl (wX8 E a σ tr) H := by rw [hHe]; exact hP
  have hS : va_S A s.heap H locs := by rw [hHe, hLe]; exact hS
  rw [← hLe, show W p l e rm_X8_day s m ([.ref (a 0)] : List Value).toArray below meth c s.heap locs 0 0 = W p l e rm_X8_day s m ([.ref (a 0)] : List Value).toArray below meth c H locs 0 0 from by rw [hHe]]
  refine lv_aload_n hx hb dX8_day_0 rfl (lv_at hl 0 rfl) ?_
  refine r_get X hP 0 (wX8_g0_0 _ _ _ _) rfl inc_X8 6 (by decide) fl_X8_48 rfl dX8_day_1 ?_
  refine lv_aload_n hx hb dX8_day_4 rfl (lv_at hl 0 rfl) ?_
  refine r_get X hP 0 (wX8_g0_0 _ _ _ _) rfl inc_X8 5 (by decide) fl_X8_41 rfl dX8_day_5 ?_
  obtain ⟨z1, hz1, hf⟩ := obd hf
  refine cV_putV X (As := [.ref (a 26)]) (rest := []) (c_X2_nextDay l E (sg_off a 30) (sg_off σ 30) (sg_off a 26) (sg_off σ 26) hz1) pv_X2_nextDay ml_X8_160 ⟨rfl, rfl⟩ ⟨(Nat.le_of_ble_eq_true rfl), (Nat.le_of_ble_eq_true rfl)⟩ hP hD hS (wX8_b_0_30_0_26_X2X0 _ _ _ _) rfl (wX2X0_g0_0 _ _ _ _ _) rfl (wX8_p_0_30_0_26_X2X0 _ _ _ _ _) rfl hl.1 rfl (Nat.le_of_ble_eq_true rfl) dX8_day_8 ⟨Nat.le_refl _, Nat.le_refl _⟩ (fun H locs hP hD hS => ?_)
  refine lv_aload_n hx hb dX8_day_11 rfl (lv_at hl 0 rfl) ?_
  obtain ⟨z2, hz2, hf⟩ := obd hf
  refine cV_allV X (As := []) (rest := []) (c_X8_foldAsNowTells l E a (sg_sp σ 30 3 z1) tr hz2) pv_X8_foldAsNowTells ml_X8_157 ⟨rfl, rfl⟩ ⟨(Nat.le_of_ble_eq_true rfl), (Nat.le_of_ble_eq_true rfl)⟩ hP hD hS (wX8_g0_0 _ _ _ _) rfl (wX8_adr _ _ _ _ _ _) rfl hl.1 rfl (Nat.le_of_ble_eq_true rfl) dX8_day_12 ⟨Nat.le_refl _, Nat.le_refl _⟩ (fun H locs hP hD hS => ?_)
  refine lv_aload_n hx hb dX8_day_15 rfl (lv_at hl 0 rfl) ?_
  refine r_get X hP 0 (wX8_g0_0 _ _ _ _) rfl inc_X8 6 (by decide) fl_X8_48 rfl dX8_day_16 ?_
  refine r_get X hP 30 (wX8_g0_30 _ _ _ _) rfl inc_X2 1 (by decide) fl_X8_164 rfl dX8_day_19 ?_
  have ho := Option.some.inj hf
  have hv : (z2 30 1) = out.1 := by rw [← ho]
  have hw := congrArg (fun o : Int32 × Sg => (wX8 E a o.2 tr)) ho
  exact r_iret X hr hP hS hv hw dX8_day_22
def rm_X8_fits : Room := { frames := 6, cells := 0, slots := 0, locals := 145 }
theorem pv_X8_fits : PkV RX8 yX8_fits cX8_fits 2 (some .int) 1 := ⟨im_X8_fits, se_X8_fits, ini_X8, cd_X8_fits, by decide +kernel⟩
set_option maxHeartbeats 4000000 in
set_option maxRecDepth 100000 in
theorem c_X8_fits (l : Launch) (E : Ev) (a : Nat → Nat) (σ : Sg) (tr : Int64) (p1 : Int32) {out : Int32 × Sg} (hf : f_X8_fits σ tr p1 = some out) : MtI l yX8_fits (wl yX8_fits cX8_fits 2 (some .int)) rm_X8_fits E [.ref (a 0), .int p1] (wX8 E a σ tr) out.1 (wX8 E a out.2 tr) := by
  refine mt_of (QQ := (fun A => va_Qi (fun x (_ : Unit) => x = out.1) (fun _ t => QW E (wX8 E a out.2 tr) t) A)) (by decide) (Nat.le_of_ble_eq_true rfl) (fun p e s m below meth c A ls X hr hP hD hS hl => ?_)
  have hx := X.1.1
  have hb := X.1.2.1
  have hl : lv_has ls 2 [(0, .ref (a 0)), (1, .int p1)] := hl
  obtain ⟨H, hHe⟩ : ∃ H : Heap, H = s.heap := ⟨_, rfl⟩
  obtain ⟨locs, hLe⟩ : ∃ locs : List Loc, locs = [] := ⟨_, rfl⟩
  have hP : va_P E.1 vwCl (wX8 E a σ tr) H := by rw [hHe]; exact hP
  have hS : va_S A s.heap H locs := by rw [hHe, hLe]; exact hS
  rw [← hLe, show W p l e rm_X8_fits s m ([.ref (a 0), .int p1] : List Value).toArray below meth c s.heap locs 0 0 = W p l e rm_X8_fits s m ([.ref (a 0), .int p1] : List Value).toArray below meth c H locs 0 0 from by rw [hHe]]
  refine lv_iload_n hx hb dX8_fits_0 rfl (lv_at hl 1 rfl) ?_
  refine lv_if_lt (tgt := 9) hx hb dX8_fits_1 (by decide) (fun c1 => ?_) (fun c1 => ?_)
  · have hf := (if_pos c1).symm.trans hf
    refine lv_iconst (v := (-1)) hx hb dX8_fits_9 (by decide) ?_
    have ho := Option.some.inj hf
    have hv : (-1) = out.1 := by rw [← ho]
    have hw := congrArg (fun o : Int32 × Sg => (wX8 E a o.2 tr)) ho
    exact r_iret X hr hP hS hv hw dX8_fits_10
  · have hf := (if_neg c1).symm.trans hf
    refine lv_iload_n hx hb dX8_fits_4 rfl (lv_at hl 1 rfl) ?_
    refine lv_iconst (v := 2) hx hb dX8_fits_5 (by decide) ?_
    refine lv_icmp_le (tgt := 11) hx hb dX8_fits_6 (by decide) (fun c2 => ?_) (fun c2 => ?_)
    · have hf := (if_pos c2).symm.trans hf
      refine lv_aload_n hx hb dX8_fits_11 rfl (lv_at hl 0 rfl) ?_
      refine r_get X hP 0 (wX8_g0_0 _ _ _ _) rfl inc_X8 9 (by decide) fl_X8_66 rfl dX8_fits_12 ?_
      refine lv_aload_n hx hb dX8_fits_15 rfl (lv_at hl 0 rfl) ?_
      refine r_get X hP 0 (wX8_g0_0 _ _ _ _) rfl inc_X8 3 (by decide) fl_X8_31 rfl dX8_fits_16 ?_
      obtain ⟨z3, hz3, hf⟩ := obd hf
      refine cV_putV X (As := [.ref (a 14)]) (rest := []) (c_X5_startFrom l E (sg_off a 43) (sg_off σ 43) (sg_off a 14) (sg_off σ 14) hz3) pv_X5_startFrom ml_X8_197 ⟨rfl, rfl⟩ ⟨(Nat.le_of_ble_eq_true rfl), (Nat.le_of_ble_eq_true rfl)⟩ hP hD hS (wX8_b_0_43_0_14_X5X3 _ _ _ _) rfl (wX5X3_g0_0 _ _ _ _ _) rfl (wX8_p_0_43_0_14_X5X3 _ _ _ _ _) rfl hl.1 rfl (Nat.le_of_ble_eq_true rfl) dX8_fits_19 ⟨Nat.le_refl _, Nat.le_refl _⟩ (fun H locs hP hD hS => ?_)
      refine lv_aload_n hx hb dX8_fits_22 rfl (lv_at hl 0 rfl) ?_
      refine r_get X hP 0 (wX8_g0_0 _ _ _ _) rfl inc_X8 9 (by decide) fl_X8_66 rfl dX8_fits_23 ?_
      refine lv_iload_n hx hb dX8_fits_26 rfl (lv_at hl 1 rfl) ?_
      refine lv_aload_n hx hb dX8_fits_27 rfl (lv_at hl 0 rfl) ?_
      refine r_get X hP 0 (wX8_g0_0 _ _ _ _) rfl inc_X8 8 (by decide) fl_X8_59 rfl dX8_fits_28 ?_
      obtain ⟨z4, hz4, hf⟩ := obd hf
      refine cV_putI X (As := [.int p1, .ref (a 40)]) (rest := []) (c_X5_countFitting l E (sg_off a 43) (sg_off (sg_sp σ 43 22 z3) 43) (sg_off a 40) (sg_off (sg_sp σ 43 22 z3) 40) p1 hz4) pv_X5_countFitting ml_X8_224 ⟨rfl, rfl⟩ ⟨(Nat.le_of_ble_eq_true rfl), (Nat.le_of_ble_eq_true rfl)⟩ hP hD hS (wX8_b_0_43_0_40_X5X4 _ _ _ _) rfl (wX5X4_g0_0 _ _ _ _ _) rfl (wX8_p_0_43_0_40_X5X4 _ _ _ _ _) rfl hl.1 rfl (Nat.le_of_ble_eq_true rfl) dX8_fits_31 ⟨Nat.le_refl _, Nat.le_refl _⟩ (fun H locs hP hD hS => ?_)
      have ho := Option.some.inj hf
      have hv : z4.1 = out.1 := by rw [← ho]
      have hw := congrArg (fun o : Int32 × Sg => (wX8 E a o.2 tr)) ho
      exact r_iret X hr hP hS hv hw dX8_fits_34
    · have hf := (if_neg c2).symm.trans hf
      refine lv_iconst (v := (-1)) hx hb dX8_fits_9 (by decide) ?_
      have ho := Option.some.inj hf
      have hv : (-1) = out.1 := by rw [← ho]
      have hw := congrArg (fun o : Int32 × Sg => (wX8 E a o.2 tr)) ho
      exact r_iret X hr hP hS hv hw dX8_fits_10
def rm_X8_isBit : Room := { frames := 0, cells := 0, slots := 0, locals := 0 }
theorem ps_X8_isBit : PkS yX8_isBit cX8_isBit 1 (some .boolean) 1 := ⟨sm_X8_isBit, ini_X8, cd_X8_isBit, by decide +kernel⟩
set_option maxHeartbeats 4000000 in
set_option maxRecDepth 100000 in
theorem c_X8_isBit (l : Launch) (E : Ev) (p1 : Int32) {out : Int32} (hf : f_X8_isBit p1 = some out) : MtI l yX8_isBit (wl yX8_isBit cX8_isBit 1 (some .boolean)) rm_X8_isBit E [.int p1] ([] : va_W) out ([] : va_W) := by
  refine mt_of (QQ := (fun A => va_Qi (fun x (_ : Unit) => x = out) (fun _ t => QW E ([] : va_W) t) A)) (by decide) (Nat.le_of_ble_eq_true rfl) (fun p e s m below meth c A ls X hr hP hD hS hl => ?_)
  have hx := X.1.1
  have hb := X.1.2.1
  have hl : lv_has ls 1 [(0, .int p1)] := hl
  obtain ⟨H, hHe⟩ : ∃ H : Heap, H = s.heap := ⟨_, rfl⟩
  obtain ⟨locs, hLe⟩ : ∃ locs : List Loc, locs = [] := ⟨_, rfl⟩
  have hP : va_P E.1 vwCl ([] : va_W) H := by rw [hHe]; exact hP
  have hS : va_S A s.heap H locs := by rw [hHe, hLe]; exact hS
  rw [← hLe, show W p l e rm_X8_isBit s m ([.int p1] : List Value).toArray below meth c s.heap locs 0 0 = W p l e rm_X8_isBit s m ([.int p1] : List Value).toArray below meth c H locs 0 0 from by rw [hHe]]
  refine lv_iload_n hx hb dX8_isBit_0 rfl (lv_at hl 0 rfl) ?_
  refine lv_if_eq (tgt := 9) hx hb dX8_isBit_1 (by decide) (fun c1 => ?_) (fun c1 => ?_)
  · have hf := (if_pos c1).symm.trans hf
    refine lv_iconst (v := 1) hx hb dX8_isBit_9 (by decide) ?_
    refine lv_goto (tgt := 14) hx hb dX8_isBit_10 (by decide) ?_
    have ho := Option.some.inj hf
    exact r_zret X hr hP hS rfl ho rfl dX8_isBit_14
  · have hf := (if_neg c1).symm.trans hf
    refine lv_iload_n hx hb dX8_isBit_4 rfl (lv_at hl 0 rfl) ?_
    refine lv_iconst (v := 1) hx hb dX8_isBit_5 (by decide) ?_
    refine lv_icmp_ne (tgt := 13) hx hb dX8_isBit_6 (by decide) (fun c2 => ?_) (fun c2 => ?_)
    · have hf := (if_neg c2).symm.trans hf
      refine lv_iconst (v := 0) hx hb dX8_isBit_13 (by decide) ?_
      have ho := Option.some.inj hf
      exact r_zret X hr hP hS rfl ho rfl dX8_isBit_14
    · have hf := (if_pos c2).symm.trans hf
      refine lv_iconst (v := 1) hx hb dX8_isBit_9 (by decide) ?_
      refine lv_goto (tgt := 14) hx hb dX8_isBit_10 (by decide) ?_
      have ho := Option.some.inj hf
      exact r_zret X hr hP hS rfl ho rfl dX8_isBit_14
def rm_X8_fold : Room := { frames := 4, cells := 0, slots := 0, locals := 96 }
theorem pv_X8_fold : PkV RX8 yX8_fold cX8_fold 6 (some .int) 4 := ⟨im_X8_fold, se_X8_fold, ini_X8, cd_X8_fold, by decide +kernel⟩
set_option maxHeartbeats 4000000 in
set_option maxRecDepth 100000 in
theorem c_X8_fold (l : Launch) (E : Ev) (a : Nat → Nat) (σ : Sg) (tr : Int64) (p1 : Int32) (p2 : Int32) (p3 : Int32) (p4 : Int32) {out : Int32 × Sg} (hf : f_X8_fold σ tr p1 p2 p3 p4 = some out) : MtI l yX8_fold (wl yX8_fold cX8_fold 6 (some .int)) rm_X8_fold E [.ref (a 0), .int p1, .int p2, .int p3, .int p4] (wX8 E a σ tr) out.1 (wX8 E a out.2 tr) := by
  refine mt_of (QQ := (fun A => va_Qi (fun x (_ : Unit) => x = out.1) (fun _ t => QW E (wX8 E a out.2 tr) t) A)) (by decide) (Nat.le_of_ble_eq_true rfl) (fun p e s m below meth c A ls X hr hP hD hS hl => ?_)
  have hx := X.1.1
  have hb := X.1.2.1
  have hl : lv_has ls 6 [(0, .ref (a 0)), (1, .int p1), (2, .int p2), (3, .int p3), (4, .int p4)] := hl
  obtain ⟨H, hHe⟩ : ∃ H : Heap, H = s.heap := ⟨_, rfl⟩
  obtain ⟨locs, hLe⟩ : ∃ locs : List Loc, locs = [] := ⟨_, rfl⟩
  have hP : va_P E.1 vwCl (wX8 E a σ tr) H := by rw [hHe]; exact hP
  have hS : va_S A s.heap H locs := by rw [hHe, hLe]; exact hS
  rw [← hLe, show W p l e rm_X8_fold s m ([.ref (a 0), .int p1, .int p2, .int p3, .int p4] : List Value).toArray below meth c s.heap locs 0 0 = W p l e rm_X8_fold s m ([.ref (a 0), .int p1, .int p2, .int p3, .int p4] : List Value).toArray below meth c H locs 0 0 from by rw [hHe]]
  refine lv_iload_n hx hb dX8_fold_0 rfl (lv_at hl 1 rfl) ?_
  obtain ⟨z1, hz1, hf⟩ := obd hf
  refine cS_roI X (As := [.int p1]) (rest := []) (c_X8_isBit l E p1 hz1) ps_X8_isBit ml_X8_131 ⟨rfl, rfl⟩ ⟨(Nat.le_of_ble_eq_true rfl), (Nat.le_of_ble_eq_true rfl)⟩ hP hD hS (is := []) (wc := []) rfl rfl rfl hl.1 rfl (Nat.le_of_ble_eq_true rfl) dX8_fold_1 ⟨Nat.le_refl _, Nat.le_refl _⟩ (fun H locs hP hS => ?_)
  refine lv_if_eq (tgt := 32) hx hb dX8_fold_4 (by decide) (fun c2 => ?_) (fun c2 => ?_)
  · have hf := (if_pos c2).symm.trans hf
    refine lv_iconst (v := (-1)) hx hb dX8_fold_32 (by decide) ?_
    have ho := Option.some.inj hf
    have hv : (-1) = out.1 := by rw [← ho]
    have hw := congrArg (fun o : Int32 × Sg => (wX8 E a o.2 tr)) ho
    exact r_iret X hr hP hS hv hw dX8_fold_33
  · have hf := (if_neg c2).symm.trans hf
    refine lv_iload_n hx hb dX8_fold_7 rfl (lv_at hl 3 rfl) ?_
    obtain ⟨z3, hz3, hf⟩ := obd hf
    refine cS_roI X (As := [.int p3]) (rest := []) (c_X8_isBit l E p3 hz3) ps_X8_isBit ml_X8_131 ⟨rfl, rfl⟩ ⟨(Nat.le_of_ble_eq_true rfl), (Nat.le_of_ble_eq_true rfl)⟩ hP hD hS (is := []) (wc := []) rfl rfl rfl hl.1 rfl (Nat.le_of_ble_eq_true rfl) dX8_fold_8 ⟨Nat.le_refl _, Nat.le_refl _⟩ (fun H locs hP hS => ?_)
    refine lv_if_eq (tgt := 32) hx hb dX8_fold_11 (by decide) (fun c4 => ?_) (fun c4 => ?_)
    · have hf := (if_pos c4).symm.trans hf
      refine lv_iconst (v := (-1)) hx hb dX8_fold_32 (by decide) ?_
      have ho := Option.some.inj hf
      have hv : (-1) = out.1 := by rw [← ho]
      have hw := congrArg (fun o : Int32 × Sg => (wX8 E a o.2 tr)) ho
      exact r_iret X hr hP hS hv hw dX8_fold_33
    · have hf := (if_neg c4).symm.trans hf
      refine lv_iload hx hb dX8_fold_14 (lv_at hl 4 rfl) ?_
      obtain ⟨z5, hz5, hf⟩ := obd hf
      refine cS_roI X (As := [.int p4]) (rest := []) (c_X8_isBit l E p4 hz5) ps_X8_isBit ml_X8_131 ⟨rfl, rfl⟩ ⟨(Nat.le_of_ble_eq_true rfl), (Nat.le_of_ble_eq_true rfl)⟩ hP hD hS (is := []) (wc := []) rfl rfl rfl hl.1 rfl (Nat.le_of_ble_eq_true rfl) dX8_fold_16 ⟨Nat.le_refl _, Nat.le_refl _⟩ (fun H locs hP hS => ?_)
      refine lv_if_eq (tgt := 32) hx hb dX8_fold_19 (by decide) (fun c6 => ?_) (fun c6 => ?_)
      · have hf := (if_pos c6).symm.trans hf
        refine lv_iconst (v := (-1)) hx hb dX8_fold_32 (by decide) ?_
        have ho := Option.some.inj hf
        have hv : (-1) = out.1 := by rw [← ho]
        have hw := congrArg (fun o : Int32 × Sg => (wX8 E a o.2 tr)) ho
        exact r_iret X hr hP hS hv hw dX8_fold_33
      · have hf := (if_neg c6).symm.trans hf
        refine lv_iload_n hx hb dX8_fold_22 rfl (lv_at hl 2 rfl) ?_
        refine lv_iconst (v := 1) hx hb dX8_fold_23 (by decide) ?_
        refine lv_icmp_lt (tgt := 32) hx hb dX8_fold_24 (by decide) (fun c7 => ?_) (fun c7 => ?_)
        · have hf := (if_pos c7).symm.trans hf
          refine lv_iconst (v := (-1)) hx hb dX8_fold_32 (by decide) ?_
          have ho := Option.some.inj hf
          have hv : (-1) = out.1 := by rw [← ho]
          have hw := congrArg (fun o : Int32 × Sg => (wX8 E a o.2 tr)) ho
          exact r_iret X hr hP hS hv hw dX8_fold_33
        · have hf := (if_neg c7).symm.trans hf
          refine lv_iload_n hx hb dX8_fold_27 rfl (lv_at hl 2 rfl) ?_
          refine lv_iconst (v := 4) hx hb dX8_fold_28 (by decide) ?_
          refine lv_icmp_lt (tgt := 34) hx hb dX8_fold_29 (by decide) (fun c8 => ?_) (fun c8 => ?_)
          · have hf := (if_pos c8).symm.trans hf
            refine lv_iload_n hx hb dX8_fold_34 rfl (lv_at hl 1 rfl) ?_
            refine lv_iconst (v := 2) hx hb dX8_fold_35 (by decide) ?_
            refine lv_iload_n hx hb dX8_fold_36 rfl (lv_at hl 3 rfl) ?_
            refine lv_imul hx hb dX8_fold_37 ?_
            refine lv_iadd hx hb dX8_fold_38 ?_
            refine lv_iconst (v := 4) hx hb dX8_fold_39 (by decide) ?_
            refine lv_iload hx hb dX8_fold_40 (lv_at hl 4 rfl) ?_
            refine lv_imul hx hb dX8_fold_42 ?_
            refine lv_iadd hx hb dX8_fold_43 ?_
            refine lv_bipush (v := 8) hx hb dX8_fold_44 (by decide) ?_
            refine lv_iload_n hx hb dX8_fold_46 rfl (lv_at hl 2 rfl) ?_
            refine lv_iconst (v := 1) hx hb dX8_fold_47 (by decide) ?_
            refine lv_isub hx hb dX8_fold_48 ?_
            refine lv_imul hx hb dX8_fold_49 ?_
            refine lv_iadd hx hb dX8_fold_50 ?_
            refine lv_istore (lv' := [(5, .int (((p1 + (2 * p3)) + (4 * p4)) + (8 * (p2 - 1)))), (0, .ref (a 0)), (1, .int p1), (2, .int p2), (3, .int p3), (4, .int p4)]) hx hb dX8_fold_51 hl (by decide) rfl (fun ls hl => ?_)
            refine lv_aload_n hx hb dX8_fold_53 rfl (lv_at hl 1 rfl) ?_
            refine r_get X hP 0 (wX8_g0_0 _ _ _ _) rfl inc_X8 4 (by decide) fl_X8_35 rfl dX8_fold_54 ?_
            refine lv_iload hx hb dX8_fold_57 (lv_at hl 0 rfl) ?_
            obtain ⟨z9, hz9, hf⟩ := obd hf
            refine cV_roI X (As := [.int (((p1 + (2 * p3)) + (4 * p4)) + (8 * (p2 - 1)))]) (rest := []) (c_X3_canBend l E (sg_off a 20) (sg_off σ 20) (((p1 + (2 * p3)) + (4 * p4)) + (8 * (p2 - 1))) hz9) pv_X3_canBend ml_X8_134 ⟨rfl, rfl⟩ ⟨(Nat.le_of_ble_eq_true rfl), (Nat.le_of_ble_eq_true rfl)⟩ hP hD hS (wX8_b_0_20_X3 _ _ _ _) rfl (wX3_g0_0 _ _ _) rfl rfl hl.1 rfl (Nat.le_of_ble_eq_true rfl) dX8_fold_59 ⟨Nat.le_refl _, Nat.le_refl _⟩ (fun H locs hP hS => ?_)
            refine lv_if_eq (tgt := 88) hx hb dX8_fold_62 (by decide) (fun c10 => ?_) (fun c10 => ?_)
            · have hf := (if_pos c10).symm.trans hf
              refine lv_bipush (v := (-2)) hx hb dX8_fold_88 (by decide) ?_
              have ho := Option.some.inj hf
              have hv : (-2) = out.1 := by rw [← ho]
              have hw := congrArg (fun o : Int32 × Sg => (wX8 E a o.2 tr)) ho
              exact r_iret X hr hP hS hv hw dX8_fold_90
            · have hf := (if_neg c10).symm.trans hf
              refine lv_aload_n hx hb dX8_fold_65 rfl (lv_at hl 1 rfl) ?_
              refine r_get X hP 0 (wX8_g0_0 _ _ _ _) rfl inc_X8 5 (by decide) fl_X8_41 rfl dX8_fold_66 ?_
              refine lv_aload_n hx hb dX8_fold_69 rfl (lv_at hl 1 rfl) ?_
              refine r_get X hP 0 (wX8_g0_0 _ _ _ _) rfl inc_X8 4 (by decide) fl_X8_35 rfl dX8_fold_70 ?_
              refine lv_iload hx hb dX8_fold_73 (lv_at hl 0 rfl) ?_
              refine lv_aload_n hx hb dX8_fold_75 rfl (lv_at hl 1 rfl) ?_
              refine r_get X hP 0 (wX8_g0_0 _ _ _ _) rfl inc_X8 2 (by decide) fl_X8_24 rfl dX8_fold_76 ?_
              refine r_get X hP 9 (wX8_g0_9 _ _ _ _) rfl inc_X1 2 (by decide) fl_X8_137 rfl dX8_fold_79 ?_
              obtain ⟨z11, hz11, hf⟩ := obd hf
              refine cV_roI X (As := [.ref (a 20), .int (((p1 + (2 * p3)) + (4 * p4)) + (8 * (p2 - 1))), .int (σ 9 2)]) (rest := []) (c_X0_wouldTear l E (sg_off a 26) (sg_off σ 26) (sg_off a 20) (sg_off σ 20) (((p1 + (2 * p3)) + (4 * p4)) + (8 * (p2 - 1))) (σ 9 2) hz11) pv_X0_wouldTear ml_X8_140 ⟨rfl, rfl⟩ ⟨(Nat.le_of_ble_eq_true rfl), (Nat.le_of_ble_eq_true rfl)⟩ hP hD hS (wX8_b_0_26_0_20_X0X3 _ _ _ _) rfl (wX0X3_g0_0 _ _ _ _ _) rfl rfl hl.1 rfl (Nat.le_of_ble_eq_true rfl) dX8_fold_82 ⟨Nat.le_refl _, Nat.le_refl _⟩ (fun H locs hP hS => ?_)
              refine lv_if_eq (tgt := 91) hx hb dX8_fold_85 (by decide) (fun c12 => ?_) (fun c12 => ?_)
              · have hf := (if_pos c12).symm.trans hf
                refine lv_aload_n hx hb dX8_fold_91 rfl (lv_at hl 1 rfl) ?_
                refine r_get X hP 0 (wX8_g0_0 _ _ _ _) rfl inc_X8 6 (by decide) fl_X8_48 rfl dX8_fold_92 ?_
                refine lv_iload hx hb dX8_fold_95 (lv_at hl 0 rfl) ?_
                obtain ⟨z13, hz13, hf⟩ := obd hf
                refine cV_putV X (As := [.int (((p1 + (2 * p3)) + (4 * p4)) + (8 * (p2 - 1)))]) (rest := []) (c_X2_addFold l E (sg_off a 30) (sg_off σ 30) (((p1 + (2 * p3)) + (4 * p4)) + (8 * (p2 - 1))) hz13) pv_X2_addFold ml_X8_144 ⟨rfl, rfl⟩ ⟨(Nat.le_of_ble_eq_true rfl), (Nat.le_of_ble_eq_true rfl)⟩ hP hD hS (wX8_b_0_30_X2 _ _ _ _) rfl (wX2_g0_0 _ _ _) rfl (wX8_p_0_30_X2 _ _ _ _ _) rfl hl.1 rfl (Nat.le_of_ble_eq_true rfl) dX8_fold_97 ⟨Nat.le_refl _, Nat.le_refl _⟩ (fun H locs hP hD hS => ?_)
                refine lv_aload_n hx hb dX8_fold_100 rfl (lv_at hl 1 rfl) ?_
                refine lv_iload hx hb dX8_fold_101 (lv_at hl 0 rfl) ?_
                obtain ⟨z14, hz14, hf⟩ := obd hf
                refine cV_allV X (As := [.int (((p1 + (2 * p3)) + (4 * p4)) + (8 * (p2 - 1)))]) (rest := []) (c_X8_bendBy l E a (sg_sp σ 30 3 z13) tr (((p1 + (2 * p3)) + (4 * p4)) + (8 * (p2 - 1))) hz14) pv_X8_bendBy ml_X8_147 ⟨rfl, rfl⟩ ⟨(Nat.le_of_ble_eq_true rfl), (Nat.le_of_ble_eq_true rfl)⟩ hP hD hS (wX8_g0_0 _ _ _ _) rfl (wX8_adr _ _ _ _ _ _) rfl hl.1 rfl (Nat.le_of_ble_eq_true rfl) dX8_fold_103 ⟨Nat.le_refl _, Nat.le_refl _⟩ (fun H locs hP hD hS => ?_)
                refine lv_aload_n hx hb dX8_fold_106 rfl (lv_at hl 1 rfl) ?_
                refine r_get X hP 0 (wX8_g0_0 _ _ _ _) rfl inc_X8 4 (by decide) fl_X8_35 rfl dX8_fold_107 ?_
                obtain ⟨z15, hz15, hf⟩ := obd hf
                refine cV_roI X (As := []) (rest := []) (c_X3_thickest l E (sg_off a 20) (sg_off z14 20) hz15) pv_X3_thickest ml_X8_150 ⟨rfl, rfl⟩ ⟨(Nat.le_of_ble_eq_true rfl), (Nat.le_of_ble_eq_true rfl)⟩ hP hD hS (wX8_b_0_20_X3 _ _ _ _) rfl (wX3_g0_0 _ _ _) rfl rfl hl.1 rfl (Nat.le_of_ble_eq_true rfl) dX8_fold_110 ⟨Nat.le_refl _, Nat.le_refl _⟩ (fun H locs hP hS => ?_)
                have ho := Option.some.inj hf
                have hv : z15 = out.1 := by rw [← ho]
                have hw := congrArg (fun o : Int32 × Sg => (wX8 E a o.2 tr)) ho
                exact r_iret X hr hP hS hv hw dX8_fold_113
              · have hf := (if_neg c12).symm.trans hf
                refine lv_bipush (v := (-2)) hx hb dX8_fold_88 (by decide) ?_
                have ho := Option.some.inj hf
                have hv : (-2) = out.1 := by rw [← ho]
                have hw := congrArg (fun o : Int32 × Sg => (wX8 E a o.2 tr)) ho
                exact r_iret X hr hP hS hv hw dX8_fold_90
          · have hf := (if_neg c8).symm.trans hf
            refine lv_iconst (v := (-1)) hx hb dX8_fold_32 (by decide) ?_
            have ho := Option.some.inj hf
            have hv : (-1) = out.1 := by rw [← ho]
            have hw := congrArg (fun o : Int32 × Sg => (wX8 E a o.2 tr)) ho
            exact r_iret X hr hP hS hv hw dX8_fold_33
def rm_X8_forget : Room := { frames := 0, cells := 0, slots := 0, locals := 0 }
theorem pv_X8_forget : PkV RX8 yX8_forget cX8_forget 2 (some .int) 0 := ⟨im_X8_forget, se_X8_forget, ini_X8, cd_X8_forget, by decide +kernel⟩
set_option maxHeartbeats 4000000 in
set_option maxRecDepth 100000 in
theorem c_X8_forget (l : Launch) (E : Ev) (a : Nat → Nat) (σ : Sg) (tr : Int64) {out : Int32 × Sg} (hf : f_X8_forget σ tr = some out) : MtI l yX8_forget (wl yX8_forget cX8_forget 2 (some .int)) rm_X8_forget E [.ref (a 0)] (wX8 E a σ tr) out.1 (wX8 E a out.2 tr) := by
  refine mt_of (QQ := (fun A => va_Qi (fun x (_ : Unit) => x = out.1) (fun _ t => QW E (wX8 E a out.2 tr) t) A)) (by decide) (Nat.le_of_ble_eq_true rfl) (fun p e s m below meth c A ls X hr hP hD hS hl => ?_)
  have hx := X.1.1
  have hb := X.1.2.1
  have hl : lv_has ls 2 [(0, .ref (a 0))] := hl
  obtain ⟨H, hHe⟩ : ∃ H : Heap, H = s.heap := ⟨_, rfl⟩
  obtain ⟨locs, hLe⟩ : ∃ locs : List Loc, locs = [] := ⟨_, rfl⟩
  have hP : va_P E.1 vwCl (wX8 E a σ tr) H := by rw [hHe]; exact hP
  have hS : va_S A s.heap H locs := by rw [hHe, hLe]; exact hS
  rw [← hLe, show W p l e rm_X8_forget s m ([.ref (a 0)] : List Value).toArray below meth c s.heap locs 0 0 = W p l e rm_X8_forget s m ([.ref (a 0)] : List Value).toArray below meth c H locs 0 0 from by rw [hHe]]
  refine lv_aload_n hx hb dX8_forget_0 rfl (lv_at hl 0 rfl) ?_
  refine r_get X hP 0 (wX8_g0_0 _ _ _ _) rfl inc_X8 8 (by decide) fl_X8_59 rfl dX8_forget_1 ?_
  refine r_get X hP 40 (wX8_g0_40 _ _ _ _) rfl inc_X4 0 (by decide) fl_X8_221 rfl dX8_forget_4 ?_
  refine lv_istore_n (lv' := [(1, .int (σ 40 0)), (0, .ref (a 0))]) hx hb dX8_forget_7 rfl hl (by decide) rfl (fun ls hl => ?_)
  refine lv_aload_n hx hb dX8_forget_8 rfl (lv_at hl 1 rfl) ?_
  refine r_get X hP 0 (wX8_g0_0 _ _ _ _) rfl inc_X8 8 (by decide) fl_X8_59 rfl dX8_forget_9 ?_
  refine lv_iconst (v := 0) hx hb dX8_forget_12 (by decide) ?_
  refine r_put X hP hD hS 40 (wX8_g0_40 _ _ _ _) rfl inc_X4 tyX4 tyX4_ok nmX4 0 (by decide) fl_X8_221 rfl (ty := .int) rfl rfl rfl (Nat.le_of_ble_eq_true rfl) (wX8_s0_40_0 _ _ _ _ _) dX8_forget_13 (fun H locs hP hD hS => ?_)
  refine lv_iload_n hx hb dX8_forget_16 rfl (lv_at hl 0 rfl) ?_
  have ho := Option.some.inj hf
  have hv : (σ 40 0) = out.1 := by rw [← ho]
  have hw := congrArg (fun o : Int32 × Sg => (wX8 E a o.2 tr)) ho
  exact r_iret X hr hP hS hv hw dX8_forget_17
def rm_X8_keep : Room := { frames := 2, cells := 0, slots := 0, locals := 61 }
theorem pv_X8_keep : PkV RX8 yX8_keep cX8_keep 2 (some .int) 1 := ⟨im_X8_keep, se_X8_keep, ini_X8, cd_X8_keep, by decide +kernel⟩
set_option maxHeartbeats 4000000 in
set_option maxRecDepth 100000 in
theorem c_X8_keep (l : Launch) (E : Ev) (a : Nat → Nat) (σ : Sg) (tr : Int64) (p1 : Int32) {out : Int32 × Sg} (hf : f_X8_keep σ tr p1 = some out) : MtI l yX8_keep (wl yX8_keep cX8_keep 2 (some .int)) rm_X8_keep E [.ref (a 0), .int p1] (wX8 E a σ tr) out.1 (wX8 E a out.2 tr) := by
  refine mt_of (QQ := (fun A => va_Qi (fun x (_ : Unit) => x = out.1) (fun _ t => QW E (wX8 E a out.2 tr) t) A)) (by decide) (Nat.le_of_ble_eq_true rfl) (fun p e s m below meth c A ls X hr hP hD hS hl => ?_)
  have hx := X.1.1
  have hb := X.1.2.1
  have hl : lv_has ls 2 [(0, .ref (a 0)), (1, .int p1)] := hl
  obtain ⟨H, hHe⟩ : ∃ H : Heap, H = s.heap := ⟨_, rfl⟩
  obtain ⟨locs, hLe⟩ : ∃ locs : List Loc, locs = [] := ⟨_, rfl⟩
  have hP : va_P E.1 vwCl (wX8 E a σ tr) H := by rw [hHe]; exact hP
  have hS : va_S A s.heap H locs := by rw [hHe, hLe]; exact hS
  rw [← hLe, show W p l e rm_X8_keep s m ([.ref (a 0), .int p1] : List Value).toArray below meth c s.heap locs 0 0 = W p l e rm_X8_keep s m ([.ref (a 0), .int p1] : List Value).toArray below meth c H locs 0 0 from by rw [hHe]]
  refine lv_iload_n hx hb dX8_keep_0 rfl (lv_at hl 1 rfl) ?_
  obtain ⟨z1, hz1, hf⟩ := obd hf
  refine cS_roI X (As := [.int p1]) (rest := []) (c_X8_isImage l E p1 hz1) ps_X8_isImage ml_X8_247 ⟨rfl, rfl⟩ ⟨(Nat.le_of_ble_eq_true rfl), (Nat.le_of_ble_eq_true rfl)⟩ hP hD hS (is := []) (wc := []) rfl rfl rfl hl.1 rfl (Nat.le_of_ble_eq_true rfl) dX8_keep_1 ⟨Nat.le_refl _, Nat.le_refl _⟩ (fun H locs hP hS => ?_)
  refine lv_if_ne (tgt := 9) hx hb dX8_keep_4 (by decide) (fun c2 => ?_) (fun c2 => ?_)
  · have hf := (if_neg c2).symm.trans hf
    refine lv_aload_n hx hb dX8_keep_9 rfl (lv_at hl 0 rfl) ?_
    refine r_get X hP 0 (wX8_g0_0 _ _ _ _) rfl inc_X8 7 (by decide) fl_X8_52 rfl dX8_keep_10 ?_
    refine lv_iload_n hx hb dX8_keep_13 rfl (lv_at hl 1 rfl) ?_
    have J1 : ∀ (g3 : Sg), j_X8_keep_1 p1 g3 = some out → ∀ (H : Heap) (locs : List Loc) (ls : Array Slot), va_P E.1 vwCl (wX8 E a g3 tr) H → va_D A (wX8 E a g3 tr) → va_S A s.heap H locs → lv_has ls 2 [(0, .ref (a 0)), (1, .int p1)] → W p l e rm_X8_keep s m ([.ref (a 0), .int p1] : List Value).toArray below meth c H locs 0 0 (MQ below (va_Qi (fun x (_ : Unit) => x = out.1) (fun _ t => QW E (wX8 E a out.2 tr) t) A) ([.ref (a 0), .int p1] : List Value).toArray s 0 0 A) (F0 m 22 ls []) := by
      intro g3 hf H locs ls hP hD hS hl
      refine lv_aload_n hx hb dX8_keep_22 rfl (lv_at hl 0 rfl) ?_
      refine r_get X hP 0 (wX8_g0_0 _ _ _ _) rfl inc_X8 7 (by decide) fl_X8_52 rfl dX8_keep_23 ?_
      refine lv_iload_n hx hb dX8_keep_26 rfl (lv_at hl 1 rfl) ?_
      have J2 : ∀ (g4 : Sg), j_X8_keep_2 g4 = some out → ∀ (H : Heap) (locs : List Loc) (ls : Array Slot), va_P E.1 vwCl (wX8 E a g4 tr) H → va_D A (wX8 E a g4 tr) → va_S A s.heap H locs → lv_has ls 2 [(0, .ref (a 0))] → W p l e rm_X8_keep s m ([.ref (a 0), .int p1] : List Value).toArray below meth c H locs 0 0 (MQ below (va_Qi (fun x (_ : Unit) => x = out.1) (fun _ t => QW E (wX8 E a out.2 tr) t) A) ([.ref (a 0), .int p1] : List Value).toArray s 0 0 A) (F0 m 32 ls []) := by
        intro g4 hf H locs ls hP hD hS hl
        refine lv_aload_n hx hb dX8_keep_32 rfl (lv_at hl 0 rfl) ?_
        refine r_get X hP 0 (wX8_g0_0 _ _ _ _) rfl inc_X8 6 (by decide) fl_X8_48 rfl dX8_keep_33 ?_
        refine r_get X hP 30 (wX8_g0_30 _ _ _ _) rfl inc_X2 1 (by decide) fl_X8_164 rfl dX8_keep_36 ?_
        have ho := Option.some.inj hf
        have hv : (g4 30 1) = out.1 := by rw [← ho]
        have hw := congrArg (fun o : Int32 × Sg => (wX8 E a o.2 tr)) ho
        exact r_iret X hr hP hS hv hw dX8_keep_39
      by_cases c5 : p1 = 0
      · have hf := (if_pos c5).symm.trans hf
        refine r_aldq X hP 33 2 (wX8_g0_33 _ _ _ _) rfl c5 (vin_d rfl) (v := a 34) rfl dX8_keep_27 ?_
        refine lv_iconst (v := 1) hx hb dX8_keep_28 (by decide) ?_
        refine r_put X hP hD hS 34 (wX8_g0_34 _ _ _ _) rfl inc_X2 tyX2 tyX2_ok nmX2 0 (by decide) fl_X8_253 rfl (ty := .boolean) rfl rfl rfl (Nat.le_of_ble_eq_true rfl) (wX8_s0_34_0 _ _ _ _ _) dX8_keep_29 (fun H locs hP hD hS => ?_)
        exact J2 (sg_st g3 34 0 1) hf H locs ls hP hD hS (lv_sub hl [0] rfl)
      · have hf := (if_neg c5).symm.trans hf
        by_cases c6 : p1 = 1
        · have hf := (if_pos c6).symm.trans hf
          refine r_aldq X hP 33 2 (wX8_g0_33 _ _ _ _) rfl c6 (vin_d rfl) (v := a 37) rfl dX8_keep_27 ?_
          refine lv_iconst (v := 1) hx hb dX8_keep_28 (by decide) ?_
          refine r_put X hP hD hS 37 (wX8_g0_37 _ _ _ _) rfl inc_X2 tyX2 tyX2_ok nmX2 0 (by decide) fl_X8_253 rfl (ty := .boolean) rfl rfl rfl (Nat.le_of_ble_eq_true rfl) (wX8_s0_37_0 _ _ _ _ _) dX8_keep_29 (fun H locs hP hD hS => ?_)
          exact J2 (sg_st g3 37 0 1) hf H locs ls hP hD hS (lv_sub hl [0] rfl)
        · have hf := (if_neg c6).symm.trans hf
          exact ob_none hf
    by_cases c7 : p1 = 0
    · have hf := (if_pos c7).symm.trans hf
      refine r_aldq X hP 33 2 (wX8_g0_33 _ _ _ _) rfl c7 (vin_d rfl) (v := a 34) rfl dX8_keep_14 ?_
      refine lv_aload_n hx hb dX8_keep_15 rfl (lv_at hl 0 rfl) ?_
      refine r_get X hP 0 (wX8_g0_0 _ _ _ _) rfl inc_X8 6 (by decide) fl_X8_48 rfl dX8_keep_16 ?_
      obtain ⟨z8, hz8, hf⟩ := obd hf
      refine cV_putV X (As := [.ref (a 30)]) (rest := []) (c_X2_copyFrom l E (sg_off a 34) (sg_off σ 34) (sg_off a 30) (sg_off σ 30) hz8) pv_X2_copyFrom ml_X8_250 ⟨rfl, rfl⟩ ⟨(Nat.le_of_ble_eq_true rfl), (Nat.le_of_ble_eq_true rfl)⟩ hP hD hS (wX8_b_0_34_0_30_X2X2 _ _ _ _) rfl (wX2X2_g0_0 _ _ _ _ _) rfl (wX8_p_0_34_0_30_X2X2 _ _ _ _ _) rfl hl.1 rfl (Nat.le_of_ble_eq_true rfl) dX8_keep_19 ⟨Nat.le_refl _, Nat.le_refl _⟩ (fun H locs hP hD hS => ?_)
      exact J1 (sg_sp σ 34 3 z8) hf H locs ls hP hD hS (lv_sub hl [0, 1] rfl)
    · have hf := (if_neg c7).symm.trans hf
      by_cases c9 : p1 = 1
      · have hf := (if_pos c9).symm.trans hf
        refine r_aldq X hP 33 2 (wX8_g0_33 _ _ _ _) rfl c9 (vin_d rfl) (v := a 37) rfl dX8_keep_14 ?_
        refine lv_aload_n hx hb dX8_keep_15 rfl (lv_at hl 0 rfl) ?_
        refine r_get X hP 0 (wX8_g0_0 _ _ _ _) rfl inc_X8 6 (by decide) fl_X8_48 rfl dX8_keep_16 ?_
        obtain ⟨z10, hz10, hf⟩ := obd hf
        refine cV_putV X (As := [.ref (a 30)]) (rest := []) (c_X2_copyFrom l E (sg_off a 37) (sg_off σ 37) (sg_off a 30) (sg_off σ 30) hz10) pv_X2_copyFrom ml_X8_250 ⟨rfl, rfl⟩ ⟨(Nat.le_of_ble_eq_true rfl), (Nat.le_of_ble_eq_true rfl)⟩ hP hD hS (wX8_b_0_37_0_30_X2X2 _ _ _ _) rfl (wX2X2_g0_0 _ _ _ _ _) rfl (wX8_p_0_37_0_30_X2X2 _ _ _ _ _) rfl hl.1 rfl (Nat.le_of_ble_eq_true rfl) dX8_keep_19 ⟨Nat.le_refl _, Nat.le_refl _⟩ (fun H locs hP hD hS => ?_)
        exact J1 (sg_sp σ 37 3 z10) hf H locs ls hP hD hS (lv_sub hl [0, 1] rfl)
      · have hf := (if_neg c9).symm.trans hf
        exact ob_none hf
  · have hf := (if_pos c2).symm.trans hf
    refine lv_iconst (v := (-1)) hx hb dX8_keep_7 (by decide) ?_
    have ho := Option.some.inj hf
    have hv : (-1) = out.1 := by rw [← ho]
    have hw := congrArg (fun o : Int32 × Sg => (wX8 E a o.2 tr)) ho
    exact r_iret X hr hP hS hv hw dX8_keep_8
def rm_X8_map : Room := { frames := 8, cells := 0, slots := 0, locals := 169 }
theorem pv_X8_map : PkV RX8 yX8_map cX8_map 1 (some .int) 0 := ⟨im_X8_map, se_X8_map, ini_X8, cd_X8_map, by decide +kernel⟩
set_option maxHeartbeats 4000000 in
set_option maxRecDepth 100000 in
theorem c_X8_map (l : Launch) (E : Ev) (a : Nat → Nat) (σ : Sg) (tr : Int64) {out : Int32 × Sg} (hf : f_X8_map σ tr = some out) : MtI l yX8_map (wl yX8_map cX8_map 1 (some .int)) rm_X8_map E [.ref (a 0)] (wX8 E a σ tr) out.1 (wX8 E a out.2 tr) := by
  refine mt_of (QQ := (fun A => va_Qi (fun x (_ : Unit) => x = out.1) (fun _ t => QW E (wX8 E a out.2 tr) t) A)) (by decide) (Nat.le_of_ble_eq_true rfl) (fun p e s m below meth c A ls X hr hP hD hS hl => ?_)
  have hx := X.1.1
  have hb := X.1.2.1
  have hl : lv_has ls 1 [(0, .ref (a 0))] := hl
  obtain ⟨H, hHe⟩ : ∃ H : Heap, H = s.heap := ⟨_, rfl⟩
  obtain ⟨locs, hLe⟩ : ∃ locs : List Loc, locs = [] := ⟨_, rfl⟩
  have hP : va_P E.1 vwCl (wX8 E a σ tr) H := by rw [hHe]; exact hP
  have hS : va_S A s.heap H locs := by rw [hHe, hLe]; exact hS
  rw [← hLe, show W p l e rm_X8_map s m ([.ref (a 0)] : List Value).toArray below meth c s.heap locs 0 0 = W p l e rm_X8_map s m ([.ref (a 0)] : List Value).toArray below meth c H locs 0 0 from by rw [hHe]]
  refine lv_aload_n hx hb dX8_map_0 rfl (lv_at hl 0 rfl) ?_
  refine r_get X hP 0 (wX8_g0_0 _ _ _ _) rfl inc_X8 0 (by decide) fl_X8_10 rfl dX8_map_1 ?_
  obtain ⟨z1, hz1, hf⟩ := obd hf
  refine cV_putI X (As := []) (rest := []) (c_X6_readAll l E (sg_off a 1) (sg_off σ 1) hz1) pv_X6_readAll ml_X8_87 ⟨rfl, rfl⟩ ⟨(Nat.le_of_ble_eq_true rfl), (Nat.le_of_ble_eq_true rfl)⟩ hP hD hS (wX8_b_0_1_X6 _ _ _ _) rfl (wX6_g0_0 _ _ _) rfl (wX8_p_0_1_X6 _ _ _ _ _) rfl hl.1 rfl (Nat.le_of_ble_eq_true rfl) dX8_map_4 ⟨Nat.le_refl _, Nat.le_refl _⟩ (fun H locs hP hD hS => ?_)
  refine lv_if_ne (tgt := 21) hx hb dX8_map_7 (by decide) (fun c2 => ?_) (fun c2 => ?_)
  · have hf := (if_neg c2).symm.trans hf
    refine lv_aload_n hx hb dX8_map_21 rfl (lv_at hl 0 rfl) ?_
    refine r_get X hP 0 (wX8_g0_0 _ _ _ _) rfl inc_X8 2 (by decide) fl_X8_24 rfl dX8_map_22 ?_
    refine lv_aload_n hx hb dX8_map_25 rfl (lv_at hl 0 rfl) ?_
    refine r_get X hP 0 (wX8_g0_0 _ _ _ _) rfl inc_X8 0 (by decide) fl_X8_10 rfl dX8_map_26 ?_
    refine r_get X hP 1 (wX8_g0_1 _ _ _ _) rfl inc_X6 1 (by decide) fl_X8_94 rfl dX8_map_29 ?_
    obtain ⟨z3, hz3, hf⟩ := obd hf
    refine cV_putV X (As := [.ref (a 4)]) (rest := []) (c_X1_copyFrom l E (sg_off a 9) (sg_off (sg_sp σ 1 8 z1.2) 9) (sg_off a 4) (sg_off (sg_sp σ 1 8 z1.2) 4) hz3) pv_X1_copyFrom ml_X8_97 ⟨rfl, rfl⟩ ⟨(Nat.le_of_ble_eq_true rfl), (Nat.le_of_ble_eq_true rfl)⟩ hP hD hS (wX8_b_0_9_0_4_X1X1 _ _ _ _) rfl (wX1X1_g0_0 _ _ _ _ _) rfl (wX8_p_0_9_0_4_X1X1 _ _ _ _ _) rfl hl.1 rfl (Nat.le_of_ble_eq_true rfl) dX8_map_32 ⟨Nat.le_refl _, Nat.le_refl _⟩ (fun H locs hP hD hS => ?_)
    refine lv_aload_n hx hb dX8_map_35 rfl (lv_at hl 0 rfl) ?_
    refine r_get X hP 0 (wX8_g0_0 _ _ _ _) rfl inc_X8 1 (by decide) fl_X8_20 rfl dX8_map_36 ?_
    refine lv_iconst (v := 0) hx hb dX8_map_39 (by decide) ?_
    refine r_put X hP hD hS 2 (wX8_g0_2 _ _ _ _) rfl inc_X7 tyX7 tyX7_ok nmX7 0 (by decide) fl_X8_77 rfl (ty := .int) rfl rfl rfl (Nat.le_of_ble_eq_true rfl) (wX8_s0_2_0 _ _ _ _ _) dX8_map_40 (fun H locs hP hD hS => ?_)
    refine lv_aload_n hx hb dX8_map_43 rfl (lv_at hl 0 rfl) ?_
    obtain ⟨z4, hz4, hf⟩ := obd hf
    refine cV_allV X (As := []) (rest := []) (c_X8_beginAnew l E a (sg_st (sg_sp (sg_sp σ 1 8 z1.2) 9 5 z3) 2 0 0) tr hz4) pv_X8_beginAnew ml_X8_74 ⟨rfl, rfl⟩ ⟨(Nat.le_of_ble_eq_true rfl), (Nat.le_of_ble_eq_true rfl)⟩ hP hD hS (wX8_g0_0 _ _ _ _) rfl (wX8_adr _ _ _ _ _ _) rfl hl.1 rfl (Nat.le_of_ble_eq_true rfl) dX8_map_44 ⟨Nat.le_refl _, Nat.le_refl _⟩ (fun H locs hP hD hS => ?_)
    refine lv_aload_n hx hb dX8_map_47 rfl (lv_at hl 0 rfl) ?_
    refine r_get X hP 0 (wX8_g0_0 _ _ _ _) rfl inc_X8 0 (by decide) fl_X8_10 rfl dX8_map_48 ?_
    refine r_get X hP 1 (wX8_g0_1 _ _ _ _) rfl inc_X6 2 (by decide) fl_X8_101 rfl dX8_map_51 ?_
    have ho := Option.some.inj hf
    have hv : (z4 1 2) = out.1 := by rw [← ho]
    have hw := congrArg (fun o : Int32 × Sg => (wX8 E a o.2 tr)) ho
    exact r_iret X hr hP hS hv hw dX8_map_54
  · have hf := (if_pos c2).symm.trans hf
    refine lv_bipush (v := (-10)) hx hb dX8_map_10 (by decide) ?_
    refine lv_aload_n hx hb dX8_map_12 rfl (lv_at hl 0 rfl) ?_
    refine r_get X hP 0 (wX8_g0_0 _ _ _ _) rfl inc_X8 1 (by decide) fl_X8_20 rfl dX8_map_13 ?_
    refine r_get X hP 2 (wX8_g0_2 _ _ _ _) rfl inc_X7 2 (by decide) fl_X8_91 rfl dX8_map_16 ?_
    refine lv_isub hx hb dX8_map_19 ?_
    have ho := Option.some.inj hf
    have hv : ((-10) - ((sg_sp σ 1 8 z1.2) 2 2)) = out.1 := by rw [← ho]
    have hw := congrArg (fun o : Int32 × Sg => (wX8 E a o.2 tr)) ho
    exact r_iret X hr hP hS hv hw dX8_map_20
def rm_X8_packet : Room := { frames := 3, cells := 0, slots := 0, locals := 67 }
theorem pv_X8_packet : PkV RX8 yX8_packet cX8_packet 2 (some .int) 1 := ⟨im_X8_packet, se_X8_packet, ini_X8, cd_X8_packet, by decide +kernel⟩
set_option maxHeartbeats 4000000 in
set_option maxRecDepth 100000 in
theorem c_X8_packet (l : Launch) (E : Ev) (a : Nat → Nat) (σ : Sg) (tr : Int64) (p1 : Int32) {out : Int32} (hf : f_X8_packet σ tr p1 = some out) : MtI l yX8_packet (wl yX8_packet cX8_packet 2 (some .int)) rm_X8_packet E [.ref (a 0), .int p1] (wX8 E a σ tr) out (wX8 E a σ tr) := by
  refine mt_of (QQ := (fun A => va_Qi (fun x (_ : Unit) => x = out) (fun _ t => QW E (wX8 E a σ tr) t) A)) (by decide) (Nat.le_of_ble_eq_true rfl) (fun p e s m below meth c A ls X hr hP hD hS hl => ?_)
  have hx := X.1.1
  have hb := X.1.2.1
  have hl : lv_has ls 2 [(0, .ref (a 0)), (1, .int p1)] := hl
  obtain ⟨H, hHe⟩ : ∃ H : Heap, H = s.heap := ⟨_, rfl⟩
  obtain ⟨locs, hLe⟩ : ∃ locs : List Loc, locs = [] := ⟨_, rfl⟩
  have hP : va_P E.1 vwCl (wX8 E a σ tr) H := by rw [hHe]; exact hP
  have hS : va_S A s.heap H locs := by rw [hHe, hLe]; exact hS
  rw [← hLe, show W p l e rm_X8_packet s m ([.ref (a 0), .int p1] : List Value).toArray below meth c s.heap locs 0 0 = W p l e rm_X8_packet s m ([.ref (a 0), .int p1] : List Value).toArray below meth c H locs 0 0 from by rw [hHe]]
  refine lv_iload_n hx hb dX8_packet_0 rfl (lv_at hl 1 rfl) ?_
  by_cases c1 : p1 = 0
  · have hf := (if_pos c1).symm.trans hf
    refine lv_tableIn (off := 35) (tgt := 36) hx hb dX8_packet_1 (by rw [c1]; decide) (by rw [c1]; decide) (by rw [c1]; rfl) (by decide) ?_
    refine lv_aload_n hx hb dX8_packet_36 rfl (lv_at hl 0 rfl) ?_
    refine r_get X hP 0 (wX8_g0_0 _ _ _ _) rfl inc_X8 4 (by decide) fl_X8_35 rfl dX8_packet_37 ?_
    refine r_get X hP 20 (wX8_g0_20 _ _ _ _) rfl inc_X3 1 (by decide) fl_X8_181 rfl dX8_packet_40 ?_
    have ho := Option.some.inj hf
    exact r_iret X hr hP hS ho rfl dX8_packet_43
  · have hf := (if_neg c1).symm.trans hf
    by_cases c2 : p1 = 1
    · have hf := (if_pos c2).symm.trans hf
      refine lv_tableIn (off := 43) (tgt := 44) hx hb dX8_packet_1 (by rw [c2]; decide) (by rw [c2]; decide) (by rw [c2]; rfl) (by decide) ?_
      refine lv_aload_n hx hb dX8_packet_44 rfl (lv_at hl 0 rfl) ?_
      refine r_get X hP 0 (wX8_g0_0 _ _ _ _) rfl inc_X8 4 (by decide) fl_X8_35 rfl dX8_packet_45 ?_
      refine r_get X hP 20 (wX8_g0_20 _ _ _ _) rfl inc_X3 2 (by decide) fl_X8_184 rfl dX8_packet_48 ?_
      have ho := Option.some.inj hf
      exact r_iret X hr hP hS ho rfl dX8_packet_51
    · have hf := (if_neg c2).symm.trans hf
      by_cases c3 : p1 = 2
      · have hf := (if_pos c3).symm.trans hf
        refine lv_tableIn (off := 51) (tgt := 52) hx hb dX8_packet_1 (by rw [c3]; decide) (by rw [c3]; decide) (by rw [c3]; rfl) (by decide) ?_
        refine lv_aload_n hx hb dX8_packet_52 rfl (lv_at hl 0 rfl) ?_
        refine r_get X hP 0 (wX8_g0_0 _ _ _ _) rfl inc_X8 4 (by decide) fl_X8_35 rfl dX8_packet_53 ?_
        obtain ⟨z4, hz4, hf⟩ := obd hf
        refine cV_roI X (As := []) (rest := []) (c_X3_thickest l E (sg_off a 20) (sg_off σ 20) hz4) pv_X3_thickest ml_X8_150 ⟨rfl, rfl⟩ ⟨(Nat.le_of_ble_eq_true rfl), (Nat.le_of_ble_eq_true rfl)⟩ hP hD hS (wX8_b_0_20_X3 _ _ _ _) rfl (wX3_g0_0 _ _ _) rfl rfl hl.1 rfl (Nat.le_of_ble_eq_true rfl) dX8_packet_56 ⟨Nat.le_refl _, Nat.le_refl _⟩ (fun H locs hP hS => ?_)
        have ho := Option.some.inj hf
        exact r_iret X hr hP hS ho rfl dX8_packet_59
      · have hf := (if_neg c3).symm.trans hf
        by_cases c5 : p1 = 3
        · have hf := (if_pos c5).symm.trans hf
          refine lv_tableIn (off := 59) (tgt := 60) hx hb dX8_packet_1 (by rw [c5]; decide) (by rw [c5]; decide) (by rw [c5]; rfl) (by decide) ?_
          refine lv_aload_n hx hb dX8_packet_60 rfl (lv_at hl 0 rfl) ?_
          refine r_get X hP 0 (wX8_g0_0 _ _ _ _) rfl inc_X8 4 (by decide) fl_X8_35 rfl dX8_packet_61 ?_
          refine lv_aload_n hx hb dX8_packet_64 rfl (lv_at hl 0 rfl) ?_
          refine r_get X hP 0 (wX8_g0_0 _ _ _ _) rfl inc_X8 2 (by decide) fl_X8_24 rfl dX8_packet_65 ?_
          refine r_get X hP 9 (wX8_g0_9 _ _ _ _) rfl inc_X1 4 (by decide) fl_X8_187 rfl dX8_packet_68 ?_
          obtain ⟨z6, hz6, hf⟩ := obd hf
          refine cV_roI X (As := [.ref (a 11)]) (rest := []) (c_X3_countFought l E (sg_off a 20) (sg_off σ 20) (sg_off a 11) (sg_off σ 11) hz6) pv_X3_countFought ml_X8_190 ⟨rfl, rfl⟩ ⟨(Nat.le_of_ble_eq_true rfl), (Nat.le_of_ble_eq_true rfl)⟩ hP hD hS (wX8_b_0_20_0_11_X3X4 _ _ _ _) rfl (wX3X4_g0_0 _ _ _ _ _) rfl rfl hl.1 rfl (Nat.le_of_ble_eq_true rfl) dX8_packet_71 ⟨Nat.le_refl _, Nat.le_refl _⟩ (fun H locs hP hS => ?_)
          have ho := Option.some.inj hf
          exact r_iret X hr hP hS ho rfl dX8_packet_74
        · have hf := (if_neg c5).symm.trans hf
          by_cases c7 : p1 = 4
          · have hf := (if_pos c7).symm.trans hf
            refine lv_tableIn (off := 74) (tgt := 75) hx hb dX8_packet_1 (by rw [c7]; decide) (by rw [c7]; decide) (by rw [c7]; rfl) (by decide) ?_
            refine lv_aload_n hx hb dX8_packet_75 rfl (lv_at hl 0 rfl) ?_
            refine r_get X hP 0 (wX8_g0_0 _ _ _ _) rfl inc_X8 4 (by decide) fl_X8_35 rfl dX8_packet_76 ?_
            obtain ⟨z8, hz8, hf⟩ := obd hf
            refine cV_roI X (As := []) (rest := []) (c_X3_countFrontPairs l E (sg_off a 20) (sg_off σ 20) hz8) pv_X3_countFrontPairs ml_X8_194 ⟨rfl, rfl⟩ ⟨(Nat.le_of_ble_eq_true rfl), (Nat.le_of_ble_eq_true rfl)⟩ hP hD hS (wX8_b_0_20_X3 _ _ _ _) rfl (wX3_g0_0 _ _ _) rfl rfl hl.1 rfl (Nat.le_of_ble_eq_true rfl) dX8_packet_79 ⟨Nat.le_refl _, Nat.le_refl _⟩ (fun H locs hP hS => ?_)
            have ho := Option.some.inj hf
            exact r_iret X hr hP hS ho rfl dX8_packet_82
          · have hf := (if_neg c7).symm.trans hf
            refine lv_tableOut (tgt := 83) hx hb dX8_packet_1 (tsw_out (fun j h1 h2 he => by
              have h3 : j = 0 ∨ j = 1 ∨ j = 2 ∨ j = 3 ∨ j = 4 := by omega
              rcases h3 with rfl | rfl | rfl | rfl | rfl
              · exact c1 he
              · exact c2 he
              · exact c3 he
              · exact c5 he
              · exact c7 he)) (by decide) ?_
            refine lv_iconst (v := (-1)) hx hb dX8_packet_83 (by decide) ?_
            have ho := Option.some.inj hf
            exact r_iret X hr hP hS ho rfl dX8_packet_84
def rm_X8_rateAsCell : Room := { frames := 0, cells := 0, slots := 0, locals := 0 }
theorem pv_X8_rateAsCell : PkV RX8 yX8_rateAsCell cX8_rateAsCell 2 (some .int) 1 := ⟨im_X8_rateAsCell, se_X8_rateAsCell, ini_X8, cd_X8_rateAsCell, by decide +kernel⟩
set_option maxHeartbeats 4000000 in
set_option maxRecDepth 100000 in
theorem c_X8_rateAsCell (l : Launch) (E : Ev) (a : Nat → Nat) (σ : Sg) (tr : Int64) (p1 : Int32) {out : Int32 × Int64} (hf : f_X8_rateAsCell σ tr p1 = some out) : MtI l yX8_rateAsCell (wl yX8_rateAsCell cX8_rateAsCell 2 (some .int)) rm_X8_rateAsCell E [.ref (a 0), .int p1] (wX8 E a σ tr) out.1 (wX8 E a σ out.2) := by
  refine mt_of (QQ := (fun A => va_Qi (fun x (_ : Unit) => x = out.1) (fun _ t => QW E (wX8 E a σ out.2) t) A)) (by decide) (Nat.le_of_ble_eq_true rfl) (fun p e s m below meth c A ls X hr hP hD hS hl => ?_)
  have hx := X.1.1
  have hb := X.1.2.1
  have hl : lv_has ls 2 [(0, .ref (a 0)), (1, .int p1)] := hl
  obtain ⟨H, hHe⟩ : ∃ H : Heap, H = s.heap := ⟨_, rfl⟩
  obtain ⟨locs, hLe⟩ : ∃ locs : List Loc, locs = [] := ⟨_, rfl⟩
  have hP : va_P E.1 vwCl (wX8 E a σ tr) H := by rw [hHe]; exact hP
  have hS : va_S A s.heap H locs := by rw [hHe, hLe]; exact hS
  rw [← hLe, show W p l e rm_X8_rateAsCell s m ([.ref (a 0), .int p1] : List Value).toArray below meth c s.heap locs 0 0 = W p l e rm_X8_rateAsCell s m ([.ref (a 0), .int p1] : List Value).toArray below meth c H locs 0 0 from by rw [hHe]]
  refine lv_aload_n hx hb dX8_rateAsCell_0 rfl (lv_at hl 0 rfl) ?_
  refine lv_dup hx hb dX8_rateAsCell_1 rfl ?_
  refine r_get X hP 0 (wX8_g0_0 _ _ _ _) rfl inc_X8 10 (by decide) fl_X8_70 rfl dX8_rateAsCell_2 ?_
  refine lv_lconst (v := 1) hx hb dX8_rateAsCell_5 (by decide) ?_
  refine lv_ladd hx hb dX8_rateAsCell_6 ?_
  refine r_put X hP hD hS 0 (wX8_g0_0 _ _ _ _) rfl inc_X8 tyX8 tyX8_ok nmX8 10 (by decide) fl_X8_70 rfl (ty := .long) rfl rfl rfl (Nat.le_of_ble_eq_true rfl) (wX8_s0_0_10 _ _ _ _ _) dX8_rateAsCell_7 (fun H locs hP hD hS => ?_)
  refine lv_aload_n hx hb dX8_rateAsCell_10 rfl (lv_at hl 0 rfl) ?_
  refine r_get X hP 0 (wX8_g0_0 _ _ _ _) rfl inc_X8 2 (by decide) fl_X8_24 rfl dX8_rateAsCell_11 ?_
  refine r_get X hP 9 (wX8_g0_9 _ _ _ _) rfl inc_X1 3 (by decide) fl_X8_121 rfl dX8_rateAsCell_14 ?_
  refine lv_iload_n hx hb dX8_rateAsCell_17 rfl (lv_at hl 1 rfl) ?_
  obtain ⟨h1, hf⟩ := chk_in hf
  refine r_iald X hP 10 (wX8_g0_10 _ _ _ _) h1 dX8_rateAsCell_18 ?_
  have ho := Option.some.inj hf
  have hv : (σ 10 (p1 : Int32).toNatClampNeg) = out.1 := by rw [← ho]
  have hw := congrArg (fun o : Int32 × Int64 => (wX8 E a σ o.2)) ho
  exact r_iret X hr hP hS hv hw dX8_rateAsCell_19
def rm_X8_rateAsDuke : Room := { frames := 1, cells := 0, slots := 0, locals := 21 }
theorem pv_X8_rateAsDuke : PkV RX8 yX8_rateAsDuke cX8_rateAsDuke 2 (some .int) 1 := ⟨im_X8_rateAsDuke, se_X8_rateAsDuke, ini_X8, cd_X8_rateAsDuke, by decide +kernel⟩
set_option maxHeartbeats 4000000 in
set_option maxRecDepth 100000 in
theorem c_X8_rateAsDuke (l : Launch) (E : Ev) (a : Nat → Nat) (σ : Sg) (tr : Int64) (p1 : Int32) {out : Int32 × Int64} (hf : f_X8_rateAsDuke σ tr p1 = some out) : MtI l yX8_rateAsDuke (wl yX8_rateAsDuke cX8_rateAsDuke 2 (some .int)) rm_X8_rateAsDuke E [.ref (a 0), .int p1] (wX8 E a σ tr) out.1 (wX8 E a σ out.2) := by
  refine mt_of (QQ := (fun A => va_Qi (fun x (_ : Unit) => x = out.1) (fun _ t => QW E (wX8 E a σ out.2) t) A)) (by decide) (Nat.le_of_ble_eq_true rfl) (fun p e s m below meth c A ls X hr hP hD hS hl => ?_)
  have hx := X.1.1
  have hb := X.1.2.1
  have hl : lv_has ls 2 [(0, .ref (a 0)), (1, .int p1)] := hl
  obtain ⟨H, hHe⟩ : ∃ H : Heap, H = s.heap := ⟨_, rfl⟩
  obtain ⟨locs, hLe⟩ : ∃ locs : List Loc, locs = [] := ⟨_, rfl⟩
  have hP : va_P E.1 vwCl (wX8 E a σ tr) H := by rw [hHe]; exact hP
  have hS : va_S A s.heap H locs := by rw [hHe, hLe]; exact hS
  rw [← hLe, show W p l e rm_X8_rateAsDuke s m ([.ref (a 0), .int p1] : List Value).toArray below meth c s.heap locs 0 0 = W p l e rm_X8_rateAsDuke s m ([.ref (a 0), .int p1] : List Value).toArray below meth c H locs 0 0 from by rw [hHe]]
  refine lv_aload_n hx hb dX8_rateAsDuke_0 rfl (lv_at hl 0 rfl) ?_
  refine lv_dup hx hb dX8_rateAsDuke_1 rfl ?_
  refine r_get X hP 0 (wX8_g0_0 _ _ _ _) rfl inc_X8 10 (by decide) fl_X8_70 rfl dX8_rateAsDuke_2 ?_
  refine lv_ldc2 hx hb X.1.2.2.2.1 (X.1.2.2.2.2 _ kl_X8_296) dX8_rateAsDuke_5 ?_
  refine lv_ladd hx hb dX8_rateAsDuke_8 ?_
  refine r_put X hP hD hS 0 (wX8_g0_0 _ _ _ _) rfl inc_X8 tyX8 tyX8_ok nmX8 10 (by decide) fl_X8_70 rfl (ty := .long) rfl rfl rfl (Nat.le_of_ble_eq_true rfl) (wX8_s0_0_10 _ _ _ _ _) dX8_rateAsDuke_9 (fun H locs hP hD hS => ?_)
  refine lv_aload_n hx hb dX8_rateAsDuke_12 rfl (lv_at hl 0 rfl) ?_
  refine lv_iload_n hx hb dX8_rateAsDuke_13 rfl (lv_at hl 1 rfl) ?_
  obtain ⟨z1, hz1, hf⟩ := obd hf
  refine cV_allI X (As := [.int p1]) (rest := []) (c_X8_rateAsCell l E a σ (tr + 100000) p1 hz1) pv_X8_rateAsCell ml_X8_244 ⟨rfl, rfl⟩ ⟨(Nat.le_of_ble_eq_true rfl), (Nat.le_of_ble_eq_true rfl)⟩ hP hD hS (wX8_g0_0 _ _ _ _) rfl (wX8_adr _ _ _ _ _ _) rfl hl.1 rfl (Nat.le_of_ble_eq_true rfl) dX8_rateAsDuke_14 ⟨Nat.le_refl _, Nat.le_refl _⟩ (fun H locs hP hD hS => ?_)
  refine lv_aload_n hx hb dX8_rateAsDuke_17 rfl (lv_at hl 0 rfl) ?_
  refine r_get X hP 0 (wX8_g0_0 _ _ _ _) rfl inc_X8 6 (by decide) fl_X8_48 rfl dX8_rateAsDuke_18 ?_
  refine r_get X hP 30 (wX8_g0_30 _ _ _ _) rfl inc_X2 1 (by decide) fl_X8_164 rfl dX8_rateAsDuke_21 ?_
  refine lv_iadd hx hb dX8_rateAsDuke_24 ?_
  have ho := Option.some.inj hf
  have hv : (z1.1 + (σ 30 1)) = out.1 := by rw [← ho]
  have hw := congrArg (fun o : Int32 × Int64 => (wX8 E a σ o.2)) ho
  exact r_iret X hr hP hS hv hw dX8_rateAsDuke_25
def rm_X8_rateAsHermit : Room := { frames := 1, cells := 0, slots := 0, locals := 21 }
theorem pv_X8_rateAsHermit : PkV RX8 yX8_rateAsHermit cX8_rateAsHermit 2 (some .int) 1 := ⟨im_X8_rateAsHermit, se_X8_rateAsHermit, ini_X8, cd_X8_rateAsHermit, by decide +kernel⟩
set_option maxHeartbeats 4000000 in
set_option maxRecDepth 100000 in
theorem c_X8_rateAsHermit (l : Launch) (E : Ev) (a : Nat → Nat) (σ : Sg) (tr : Int64) (p1 : Int32) {out : Int32 × Int64} (hf : f_X8_rateAsHermit σ tr p1 = some out) : MtI l yX8_rateAsHermit (wl yX8_rateAsHermit cX8_rateAsHermit 2 (some .int)) rm_X8_rateAsHermit E [.ref (a 0), .int p1] (wX8 E a σ tr) out.1 (wX8 E a σ out.2) := by
  refine mt_of (QQ := (fun A => va_Qi (fun x (_ : Unit) => x = out.1) (fun _ t => QW E (wX8 E a σ out.2) t) A)) (by decide) (Nat.le_of_ble_eq_true rfl) (fun p e s m below meth c A ls X hr hP hD hS hl => ?_)
  have hx := X.1.1
  have hb := X.1.2.1
  have hl : lv_has ls 2 [(0, .ref (a 0)), (1, .int p1)] := hl
  obtain ⟨H, hHe⟩ : ∃ H : Heap, H = s.heap := ⟨_, rfl⟩
  obtain ⟨locs, hLe⟩ : ∃ locs : List Loc, locs = [] := ⟨_, rfl⟩
  have hP : va_P E.1 vwCl (wX8 E a σ tr) H := by rw [hHe]; exact hP
  have hS : va_S A s.heap H locs := by rw [hHe, hLe]; exact hS
  rw [← hLe, show W p l e rm_X8_rateAsHermit s m ([.ref (a 0), .int p1] : List Value).toArray below meth c s.heap locs 0 0 = W p l e rm_X8_rateAsHermit s m ([.ref (a 0), .int p1] : List Value).toArray below meth c H locs 0 0 from by rw [hHe]]
  refine lv_aload_n hx hb dX8_rateAsHermit_0 rfl (lv_at hl 0 rfl) ?_
  refine lv_dup hx hb dX8_rateAsHermit_1 rfl ?_
  refine r_get X hP 0 (wX8_g0_0 _ _ _ _) rfl inc_X8 10 (by decide) fl_X8_70 rfl dX8_rateAsHermit_2 ?_
  refine lv_ldc2 hx hb X.1.2.2.2.1 (X.1.2.2.2.2 _ kl_X8_290) dX8_rateAsHermit_5 ?_
  refine lv_ladd hx hb dX8_rateAsHermit_8 ?_
  refine r_put X hP hD hS 0 (wX8_g0_0 _ _ _ _) rfl inc_X8 tyX8 tyX8_ok nmX8 10 (by decide) fl_X8_70 rfl (ty := .long) rfl rfl rfl (Nat.le_of_ble_eq_true rfl) (wX8_s0_0_10 _ _ _ _ _) dX8_rateAsHermit_9 (fun H locs hP hD hS => ?_)
  refine lv_aload_n hx hb dX8_rateAsHermit_12 rfl (lv_at hl 0 rfl) ?_
  refine lv_iload_n hx hb dX8_rateAsHermit_13 rfl (lv_at hl 1 rfl) ?_
  obtain ⟨z1, hz1, hf⟩ := obd hf
  refine cV_allI X (As := [.int p1]) (rest := []) (c_X8_rateAsCell l E a σ (tr + 100) p1 hz1) pv_X8_rateAsCell ml_X8_244 ⟨rfl, rfl⟩ ⟨(Nat.le_of_ble_eq_true rfl), (Nat.le_of_ble_eq_true rfl)⟩ hP hD hS (wX8_g0_0 _ _ _ _) rfl (wX8_adr _ _ _ _ _ _) rfl hl.1 rfl (Nat.le_of_ble_eq_true rfl) dX8_rateAsHermit_14 ⟨Nat.le_refl _, Nat.le_refl _⟩ (fun H locs hP hD hS => ?_)
  refine lv_aload_n hx hb dX8_rateAsHermit_17 rfl (lv_at hl 0 rfl) ?_
  refine r_get X hP 0 (wX8_g0_0 _ _ _ _) rfl inc_X8 4 (by decide) fl_X8_35 rfl dX8_rateAsHermit_18 ?_
  refine r_get X hP 20 (wX8_g0_20 _ _ _ _) rfl inc_X3 5 (by decide) fl_X8_115 rfl dX8_rateAsHermit_21 ?_
  refine lv_iload_n hx hb dX8_rateAsHermit_24 rfl (lv_at hl 1 rfl) ?_
  obtain ⟨h2, hf⟩ := chk_in hf
  refine r_iald X hP 23 (wX8_g0_23 _ _ _ _) h2 dX8_rateAsHermit_25 ?_
  refine lv_isub hx hb dX8_rateAsHermit_26 ?_
  have ho := Option.some.inj hf
  have hv : (z1.1 - (σ 23 (p1 : Int32).toNatClampNeg)) = out.1 := by rw [← ho]
  have hw := congrArg (fun o : Int32 × Int64 => (wX8 E a σ o.2)) ho
  exact r_iret X hr hP hS hv hw dX8_rateAsHermit_27
def rm_X8_rateAsFolder : Room := { frames := 2, cells := 0, slots := 0, locals := 42 }
theorem pv_X8_rateAsFolder : PkV RX8 yX8_rateAsFolder cX8_rateAsFolder 2 (some .int) 1 := ⟨im_X8_rateAsFolder, se_X8_rateAsFolder, ini_X8, cd_X8_rateAsFolder, by decide +kernel⟩
set_option maxHeartbeats 4000000 in
set_option maxRecDepth 100000 in
theorem c_X8_rateAsFolder (l : Launch) (E : Ev) (a : Nat → Nat) (σ : Sg) (tr : Int64) (p1 : Int32) {out : Int32 × Int64} (hf : f_X8_rateAsFolder σ tr p1 = some out) : MtI l yX8_rateAsFolder (wl yX8_rateAsFolder cX8_rateAsFolder 2 (some .int)) rm_X8_rateAsFolder E [.ref (a 0), .int p1] (wX8 E a σ tr) out.1 (wX8 E a σ out.2) := by
  refine mt_of (QQ := (fun A => va_Qi (fun x (_ : Unit) => x = out.1) (fun _ t => QW E (wX8 E a σ out.2) t) A)) (by decide) (Nat.le_of_ble_eq_true rfl) (fun p e s m below meth c A ls X hr hP hD hS hl => ?_)
  have hx := X.1.1
  have hb := X.1.2.1
  have hl : lv_has ls 2 [(0, .ref (a 0)), (1, .int p1)] := hl
  obtain ⟨H, hHe⟩ : ∃ H : Heap, H = s.heap := ⟨_, rfl⟩
  obtain ⟨locs, hLe⟩ : ∃ locs : List Loc, locs = [] := ⟨_, rfl⟩
  have hP : va_P E.1 vwCl (wX8 E a σ tr) H := by rw [hHe]; exact hP
  have hS : va_S A s.heap H locs := by rw [hHe, hLe]; exact hS
  rw [← hLe, show W p l e rm_X8_rateAsFolder s m ([.ref (a 0), .int p1] : List Value).toArray below meth c s.heap locs 0 0 = W p l e rm_X8_rateAsFolder s m ([.ref (a 0), .int p1] : List Value).toArray below meth c H locs 0 0 from by rw [hHe]]
  refine lv_aload_n hx hb dX8_rateAsFolder_0 rfl (lv_at hl 0 rfl) ?_
  refine lv_dup hx hb dX8_rateAsFolder_1 rfl ?_
  refine r_get X hP 0 (wX8_g0_0 _ _ _ _) rfl inc_X8 10 (by decide) fl_X8_70 rfl dX8_rateAsFolder_2 ?_
  refine lv_ldc2 hx hb X.1.2.2.2.1 (X.1.2.2.2.2 _ kl_X8_294) dX8_rateAsFolder_5 ?_
  refine lv_ladd hx hb dX8_rateAsFolder_8 ?_
  refine r_put X hP hD hS 0 (wX8_g0_0 _ _ _ _) rfl inc_X8 tyX8 tyX8_ok nmX8 10 (by decide) fl_X8_70 rfl (ty := .long) rfl rfl rfl (Nat.le_of_ble_eq_true rfl) (wX8_s0_0_10 _ _ _ _ _) dX8_rateAsFolder_9 (fun H locs hP hD hS => ?_)
  refine lv_aload_n hx hb dX8_rateAsFolder_12 rfl (lv_at hl 0 rfl) ?_
  refine lv_iload_n hx hb dX8_rateAsFolder_13 rfl (lv_at hl 1 rfl) ?_
  obtain ⟨z1, hz1, hf⟩ := obd hf
  refine cV_allI X (As := [.int p1]) (rest := []) (c_X8_rateAsHermit l E a σ (tr + 10000) p1 hz1) pv_X8_rateAsHermit ml_X8_232 ⟨rfl, rfl⟩ ⟨(Nat.le_of_ble_eq_true rfl), (Nat.le_of_ble_eq_true rfl)⟩ hP hD hS (wX8_g0_0 _ _ _ _) rfl (wX8_adr _ _ _ _ _ _) rfl hl.1 rfl (Nat.le_of_ble_eq_true rfl) dX8_rateAsFolder_14 ⟨Nat.le_refl _, Nat.le_refl _⟩ (fun H locs hP hD hS => ?_)
  refine lv_aload_n hx hb dX8_rateAsFolder_17 rfl (lv_at hl 0 rfl) ?_
  refine r_get X hP 0 (wX8_g0_0 _ _ _ _) rfl inc_X8 6 (by decide) fl_X8_48 rfl dX8_rateAsFolder_18 ?_
  refine r_get X hP 30 (wX8_g0_30 _ _ _ _) rfl inc_X2 2 (by decide) fl_X8_154 rfl dX8_rateAsFolder_21 ?_
  refine lv_iadd hx hb dX8_rateAsFolder_24 ?_
  have ho := Option.some.inj hf
  have hv : (z1.1 + (σ 30 2)) = out.1 := by rw [← ho]
  have hw := congrArg (fun o : Int32 × Int64 => (wX8 E a σ o.2)) ho
  exact r_iret X hr hP hS hv hw dX8_rateAsFolder_25
def rm_X8_rateAsWell : Room := { frames := 3, cells := 0, slots := 0, locals := 68 }
theorem pv_X8_rateAsWell : PkV RX8 yX8_rateAsWell cX8_rateAsWell 2 (some .int) 1 := ⟨im_X8_rateAsWell, se_X8_rateAsWell, ini_X8, cd_X8_rateAsWell, by decide +kernel⟩
set_option maxHeartbeats 4000000 in
set_option maxRecDepth 100000 in
theorem c_X8_rateAsWell (l : Launch) (E : Ev) (a : Nat → Nat) (σ : Sg) (tr : Int64) (p1 : Int32) {out : Int32 × Int64} (hf : f_X8_rateAsWell σ tr p1 = some out) : MtI l yX8_rateAsWell (wl yX8_rateAsWell cX8_rateAsWell 2 (some .int)) rm_X8_rateAsWell E [.ref (a 0), .int p1] (wX8 E a σ tr) out.1 (wX8 E a σ out.2) := by
  refine mt_of (QQ := (fun A => va_Qi (fun x (_ : Unit) => x = out.1) (fun _ t => QW E (wX8 E a σ out.2) t) A)) (by decide) (Nat.le_of_ble_eq_true rfl) (fun p e s m below meth c A ls X hr hP hD hS hl => ?_)
  have hx := X.1.1
  have hb := X.1.2.1
  have hl : lv_has ls 2 [(0, .ref (a 0)), (1, .int p1)] := hl
  obtain ⟨H, hHe⟩ : ∃ H : Heap, H = s.heap := ⟨_, rfl⟩
  obtain ⟨locs, hLe⟩ : ∃ locs : List Loc, locs = [] := ⟨_, rfl⟩
  have hP : va_P E.1 vwCl (wX8 E a σ tr) H := by rw [hHe]; exact hP
  have hS : va_S A s.heap H locs := by rw [hHe, hLe]; exact hS
  rw [← hLe, show W p l e rm_X8_rateAsWell s m ([.ref (a 0), .int p1] : List Value).toArray below meth c s.heap locs 0 0 = W p l e rm_X8_rateAsWell s m ([.ref (a 0), .int p1] : List Value).toArray below meth c H locs 0 0 from by rw [hHe]]
  refine lv_aload_n hx hb dX8_rateAsWell_0 rfl (lv_at hl 0 rfl) ?_
  refine lv_dup hx hb dX8_rateAsWell_1 rfl ?_
  refine r_get X hP 0 (wX8_g0_0 _ _ _ _) rfl inc_X8 10 (by decide) fl_X8_70 rfl dX8_rateAsWell_2 ?_
  refine lv_ldc2 hx hb X.1.2.2.2.1 (X.1.2.2.2.2 _ kl_X8_288) dX8_rateAsWell_5 ?_
  refine lv_ladd hx hb dX8_rateAsWell_8 ?_
  refine r_put X hP hD hS 0 (wX8_g0_0 _ _ _ _) rfl inc_X8 tyX8 tyX8_ok nmX8 10 (by decide) fl_X8_70 rfl (ty := .long) rfl rfl rfl (Nat.le_of_ble_eq_true rfl) (wX8_s0_0_10 _ _ _ _ _) dX8_rateAsWell_9 (fun H locs hP hD hS => ?_)
  refine lv_aload_n hx hb dX8_rateAsWell_12 rfl (lv_at hl 0 rfl) ?_
  refine lv_iload_n hx hb dX8_rateAsWell_13 rfl (lv_at hl 1 rfl) ?_
  obtain ⟨z1, hz1, hf⟩ := obd hf
  refine cV_allI X (As := [.int p1]) (rest := []) (c_X8_rateAsCell l E a σ (tr + 10) p1 hz1) pv_X8_rateAsCell ml_X8_244 ⟨rfl, rfl⟩ ⟨(Nat.le_of_ble_eq_true rfl), (Nat.le_of_ble_eq_true rfl)⟩ hP hD hS (wX8_g0_0 _ _ _ _) rfl (wX8_adr _ _ _ _ _ _) rfl hl.1 rfl (Nat.le_of_ble_eq_true rfl) dX8_rateAsWell_14 ⟨Nat.le_refl _, Nat.le_refl _⟩ (fun H locs hP hD hS => ?_)
  refine lv_aload_n hx hb dX8_rateAsWell_17 rfl (lv_at hl 0 rfl) ?_
  refine r_get X hP 0 (wX8_g0_0 _ _ _ _) rfl inc_X8 4 (by decide) fl_X8_35 rfl dX8_rateAsWell_18 ?_
  refine lv_iload_n hx hb dX8_rateAsWell_21 rfl (lv_at hl 1 rfl) ?_
  refine lv_aload_n hx hb dX8_rateAsWell_22 rfl (lv_at hl 0 rfl) ?_
  refine r_get X hP 0 (wX8_g0_0 _ _ _ _) rfl inc_X8 2 (by decide) fl_X8_24 rfl dX8_rateAsWell_23 ?_
  refine r_get X hP 9 (wX8_g0_9 _ _ _ _) rfl inc_X1 3 (by decide) fl_X8_121 rfl dX8_rateAsWell_26 ?_
  obtain ⟨z2, hz2, hf⟩ := obd hf
  refine cV_roI X (As := [.int p1, .ref (a 10)]) (rest := [.int z1.1]) (c_X3_gainOf l E (sg_off a 20) (sg_off σ 20) (sg_off a 10) (sg_off σ 10) p1 hz2) pv_X3_gainOf ml_X8_124 ⟨rfl, rfl⟩ ⟨(Nat.le_of_ble_eq_true rfl), (Nat.le_of_ble_eq_true rfl)⟩ hP hD hS (wX8_b_0_20_0_10_X3AI16 _ _ _ _) rfl (wX3AI16_g0_0 _ _ _ _ _) rfl rfl hl.1 rfl (Nat.le_of_ble_eq_true rfl) dX8_rateAsWell_29 ⟨Nat.le_refl _, Nat.le_refl _⟩ (fun H locs hP hS => ?_)
  refine lv_iadd hx hb dX8_rateAsWell_32 ?_
  have ho := Option.some.inj hf
  have hv : (z1.1 + z2) = out.1 := by rw [← ho]
  have hw := congrArg (fun o : Int32 × Int64 => (wX8 E a σ o.2)) ho
  exact r_iret X hr hP hS hv hw dX8_rateAsWell_33
def rm_X8_rateAsLight : Room := { frames := 4, cells := 0, slots := 0, locals := 89 }
theorem pv_X8_rateAsLight : PkV RX8 yX8_rateAsLight cX8_rateAsLight 2 (some .int) 1 := ⟨im_X8_rateAsLight, se_X8_rateAsLight, ini_X8, cd_X8_rateAsLight, by decide +kernel⟩
set_option maxHeartbeats 4000000 in
set_option maxRecDepth 100000 in
theorem c_X8_rateAsLight (l : Launch) (E : Ev) (a : Nat → Nat) (σ : Sg) (tr : Int64) (p1 : Int32) {out : Int32 × Int64} (hf : f_X8_rateAsLight σ tr p1 = some out) : MtI l yX8_rateAsLight (wl yX8_rateAsLight cX8_rateAsLight 2 (some .int)) rm_X8_rateAsLight E [.ref (a 0), .int p1] (wX8 E a σ tr) out.1 (wX8 E a σ out.2) := by
  refine mt_of (QQ := (fun A => va_Qi (fun x (_ : Unit) => x = out.1) (fun _ t => QW E (wX8 E a σ out.2) t) A)) (by decide) (Nat.le_of_ble_eq_true rfl) (fun p e s m below meth c A ls X hr hP hD hS hl => ?_)
  have hx := X.1.1
  have hb := X.1.2.1
  have hl : lv_has ls 2 [(0, .ref (a 0)), (1, .int p1)] := hl
  obtain ⟨H, hHe⟩ : ∃ H : Heap, H = s.heap := ⟨_, rfl⟩
  obtain ⟨locs, hLe⟩ : ∃ locs : List Loc, locs = [] := ⟨_, rfl⟩
  have hP : va_P E.1 vwCl (wX8 E a σ tr) H := by rw [hHe]; exact hP
  have hS : va_S A s.heap H locs := by rw [hHe, hLe]; exact hS
  rw [← hLe, show W p l e rm_X8_rateAsLight s m ([.ref (a 0), .int p1] : List Value).toArray below meth c s.heap locs 0 0 = W p l e rm_X8_rateAsLight s m ([.ref (a 0), .int p1] : List Value).toArray below meth c H locs 0 0 from by rw [hHe]]
  refine lv_aload_n hx hb dX8_rateAsLight_0 rfl (lv_at hl 0 rfl) ?_
  refine lv_dup hx hb dX8_rateAsLight_1 rfl ?_
  refine r_get X hP 0 (wX8_g0_0 _ _ _ _) rfl inc_X8 10 (by decide) fl_X8_70 rfl dX8_rateAsLight_2 ?_
  refine lv_ldc2 hx hb X.1.2.2.2.1 (X.1.2.2.2.2 _ kl_X8_292) dX8_rateAsLight_5 ?_
  refine lv_ladd hx hb dX8_rateAsLight_8 ?_
  refine r_put X hP hD hS 0 (wX8_g0_0 _ _ _ _) rfl inc_X8 tyX8 tyX8_ok nmX8 10 (by decide) fl_X8_70 rfl (ty := .long) rfl rfl rfl (Nat.le_of_ble_eq_true rfl) (wX8_s0_0_10 _ _ _ _ _) dX8_rateAsLight_9 (fun H locs hP hD hS => ?_)
  refine lv_iconst (v := 2) hx hb dX8_rateAsLight_12 (by decide) ?_
  refine lv_aload_n hx hb dX8_rateAsLight_13 rfl (lv_at hl 0 rfl) ?_
  refine lv_iload_n hx hb dX8_rateAsLight_14 rfl (lv_at hl 1 rfl) ?_
  obtain ⟨z1, hz1, hf⟩ := obd hf
  refine cV_allI X (As := [.int p1]) (rest := [.int 2]) (c_X8_rateAsWell l E a σ (tr + 1000) p1 hz1) pv_X8_rateAsWell ml_X8_229 ⟨rfl, rfl⟩ ⟨(Nat.le_of_ble_eq_true rfl), (Nat.le_of_ble_eq_true rfl)⟩ hP hD hS (wX8_g0_0 _ _ _ _) rfl (wX8_adr _ _ _ _ _ _) rfl hl.1 rfl (Nat.le_of_ble_eq_true rfl) dX8_rateAsLight_15 ⟨Nat.le_refl _, Nat.le_refl _⟩ (fun H locs hP hD hS => ?_)
  refine lv_imul hx hb dX8_rateAsLight_18 ?_
  have ho := Option.some.inj hf
  have hv : (2 * z1.1) = out.1 := by rw [← ho]
  have hw := congrArg (fun o : Int32 × Int64 => (wX8 E a σ o.2)) ho
  exact r_iret X hr hP hS hv hw dX8_rateAsLight_19
def rm_X8_rate : Room := { frames := 5, cells := 0, slots := 0, locals := 110 }
theorem pv_X8_rate : PkV RX8 yX8_rate cX8_rate 3 (some .int) 2 := ⟨im_X8_rate, se_X8_rate, ini_X8, cd_X8_rate, by decide +kernel⟩
set_option maxHeartbeats 4000000 in
set_option maxRecDepth 100000 in
theorem c_X8_rate (l : Launch) (E : Ev) (a : Nat → Nat) (σ : Sg) (tr : Int64) (p1 : Int32) (p2 : Int32) {out : Int32 × Int64} (hf : f_X8_rate σ tr p1 p2 = some out) : MtI l yX8_rate (wl yX8_rate cX8_rate 3 (some .int)) rm_X8_rate E [.ref (a 0), .int p1, .int p2] (wX8 E a σ tr) out.1 (wX8 E a σ out.2) := by
  refine mt_of (QQ := (fun A => va_Qi (fun x (_ : Unit) => x = out.1) (fun _ t => QW E (wX8 E a σ out.2) t) A)) (by decide) (Nat.le_of_ble_eq_true rfl) (fun p e s m below meth c A ls X hr hP hD hS hl => ?_)
  have hx := X.1.1
  have hb := X.1.2.1
  have hl : lv_has ls 3 [(0, .ref (a 0)), (1, .int p1), (2, .int p2)] := hl
  obtain ⟨H, hHe⟩ : ∃ H : Heap, H = s.heap := ⟨_, rfl⟩
  obtain ⟨locs, hLe⟩ : ∃ locs : List Loc, locs = [] := ⟨_, rfl⟩
  have hP : va_P E.1 vwCl (wX8 E a σ tr) H := by rw [hHe]; exact hP
  have hS : va_S A s.heap H locs := by rw [hHe, hLe]; exact hS
  rw [← hLe, show W p l e rm_X8_rate s m ([.ref (a 0), .int p1, .int p2] : List Value).toArray below meth c s.heap locs 0 0 = W p l e rm_X8_rate s m ([.ref (a 0), .int p1, .int p2] : List Value).toArray below meth c H locs 0 0 from by rw [hHe]]
  refine lv_iload_n hx hb dX8_rate_0 rfl (lv_at hl 1 rfl) ?_
  refine lv_if_lt (tgt := 18) hx hb dX8_rate_1 (by decide) (fun c1 => ?_) (fun c1 => ?_)
  · have hf := (if_pos c1).symm.trans hf
    refine lv_ldc hx hb X.1.2.2.2.1 (X.1.2.2.2.2 _ ki_X8_228) dX8_rate_18 ?_
    have ho := Option.some.inj hf
    have hv : (-1000000) = out.1 := by rw [← ho]
    have hw := congrArg (fun o : Int32 × Int64 => (wX8 E a σ o.2)) ho
    exact r_iret X hr hP hS hv hw dX8_rate_20
  · have hf := (if_neg c1).symm.trans hf
    refine lv_iload_n hx hb dX8_rate_4 rfl (lv_at hl 1 rfl) ?_
    refine lv_bipush (v := 6) hx hb dX8_rate_5 (by decide) ?_
    refine lv_icmp_ge (tgt := 18) hx hb dX8_rate_7 (by decide) (fun c2 => ?_) (fun c2 => ?_)
    · have hf := (if_pos c2).symm.trans hf
      refine lv_ldc hx hb X.1.2.2.2.1 (X.1.2.2.2.2 _ ki_X8_228) dX8_rate_18 ?_
      have ho := Option.some.inj hf
      have hv : (-1000000) = out.1 := by rw [← ho]
      have hw := congrArg (fun o : Int32 × Int64 => (wX8 E a σ o.2)) ho
      exact r_iret X hr hP hS hv hw dX8_rate_20
    · have hf := (if_neg c2).symm.trans hf
      refine lv_aload_n hx hb dX8_rate_10 rfl (lv_at hl 0 rfl) ?_
      refine lv_iload_n hx hb dX8_rate_11 rfl (lv_at hl 2 rfl) ?_
      obtain ⟨z3, hz3, hf⟩ := obd hf
      refine cV_allI X (As := [.int p2]) (rest := []) (c_X8_isCell l E a σ tr p2 hz3) pv_X8_isCell ml_X8_104 ⟨rfl, rfl⟩ ⟨(Nat.le_of_ble_eq_true rfl), (Nat.le_of_ble_eq_true rfl)⟩ hP hD hS (wX8_g0_0 _ _ _ _) rfl (wX8_adr _ _ _ _ _ _) rfl hl.1 rfl (Nat.le_of_ble_eq_true rfl) dX8_rate_12 ⟨Nat.le_refl _, Nat.le_refl _⟩ (fun H locs hP hD hS => ?_)
      refine lv_if_ne (tgt := 21) hx hb dX8_rate_15 (by decide) (fun c4 => ?_) (fun c4 => ?_)
      · have hf := (if_neg c4).symm.trans hf
        refine lv_iload_n hx hb dX8_rate_21 rfl (lv_at hl 1 rfl) ?_
        by_cases c5 : p1 = 1
        · have hf := (if_pos c5).symm.trans hf
          refine lv_tableIn (off := 34) (tgt := 56) hx hb dX8_rate_22 (by rw [c5]; decide) (by rw [c5]; decide) (by rw [c5]; rfl) (by decide) ?_
          refine lv_aload_n hx hb dX8_rate_56 rfl (lv_at hl 0 rfl) ?_
          refine lv_iload_n hx hb dX8_rate_57 rfl (lv_at hl 2 rfl) ?_
          obtain ⟨z6, hz6, hf⟩ := obd hf
          refine cV_allI X (As := [.int p2]) (rest := []) (c_X8_rateAsWell l E a σ tr p2 hz6) pv_X8_rateAsWell ml_X8_229 ⟨rfl, rfl⟩ ⟨(Nat.le_of_ble_eq_true rfl), (Nat.le_of_ble_eq_true rfl)⟩ hP hD hS (wX8_g0_0 _ _ _ _) rfl (wX8_adr _ _ _ _ _ _) rfl hl.1 rfl (Nat.le_of_ble_eq_true rfl) dX8_rate_58 ⟨Nat.le_refl _, Nat.le_refl _⟩ (fun H locs hP hD hS => ?_)
          have ho := Option.some.inj hf
          have hv : z6.1 = out.1 := by rw [← ho]
          have hw := congrArg (fun o : Int32 × Int64 => (wX8 E a σ o.2)) ho
          exact r_iret X hr hP hS hv hw dX8_rate_61
        · have hf := (if_neg c5).symm.trans hf
          by_cases c7 : p1 = 2
          · have hf := (if_pos c7).symm.trans hf
            refine lv_tableIn (off := 40) (tgt := 62) hx hb dX8_rate_22 (by rw [c7]; decide) (by rw [c7]; decide) (by rw [c7]; rfl) (by decide) ?_
            refine lv_aload_n hx hb dX8_rate_62 rfl (lv_at hl 0 rfl) ?_
            refine lv_iload_n hx hb dX8_rate_63 rfl (lv_at hl 2 rfl) ?_
            obtain ⟨z8, hz8, hf⟩ := obd hf
            refine cV_allI X (As := [.int p2]) (rest := []) (c_X8_rateAsHermit l E a σ tr p2 hz8) pv_X8_rateAsHermit ml_X8_232 ⟨rfl, rfl⟩ ⟨(Nat.le_of_ble_eq_true rfl), (Nat.le_of_ble_eq_true rfl)⟩ hP hD hS (wX8_g0_0 _ _ _ _) rfl (wX8_adr _ _ _ _ _ _) rfl hl.1 rfl (Nat.le_of_ble_eq_true rfl) dX8_rate_64 ⟨Nat.le_refl _, Nat.le_refl _⟩ (fun H locs hP hD hS => ?_)
            have ho := Option.some.inj hf
            have hv : z8.1 = out.1 := by rw [← ho]
            have hw := congrArg (fun o : Int32 × Int64 => (wX8 E a σ o.2)) ho
            exact r_iret X hr hP hS hv hw dX8_rate_67
          · have hf := (if_neg c7).symm.trans hf
            by_cases c9 : p1 = 3
            · have hf := (if_pos c9).symm.trans hf
              refine lv_tableIn (off := 46) (tgt := 68) hx hb dX8_rate_22 (by rw [c9]; decide) (by rw [c9]; decide) (by rw [c9]; rfl) (by decide) ?_
              refine lv_aload_n hx hb dX8_rate_68 rfl (lv_at hl 0 rfl) ?_
              refine lv_iload_n hx hb dX8_rate_69 rfl (lv_at hl 2 rfl) ?_
              obtain ⟨z10, hz10, hf⟩ := obd hf
              refine cV_allI X (As := [.int p2]) (rest := []) (c_X8_rateAsLight l E a σ tr p2 hz10) pv_X8_rateAsLight ml_X8_235 ⟨rfl, rfl⟩ ⟨(Nat.le_of_ble_eq_true rfl), (Nat.le_of_ble_eq_true rfl)⟩ hP hD hS (wX8_g0_0 _ _ _ _) rfl (wX8_adr _ _ _ _ _ _) rfl hl.1 rfl (Nat.le_of_ble_eq_true rfl) dX8_rate_70 ⟨Nat.le_refl _, Nat.le_refl _⟩ (fun H locs hP hD hS => ?_)
              have ho := Option.some.inj hf
              have hv : z10.1 = out.1 := by rw [← ho]
              have hw := congrArg (fun o : Int32 × Int64 => (wX8 E a σ o.2)) ho
              exact r_iret X hr hP hS hv hw dX8_rate_73
            · have hf := (if_neg c9).symm.trans hf
              by_cases c11 : p1 = 4
              · have hf := (if_pos c11).symm.trans hf
                refine lv_tableIn (off := 52) (tgt := 74) hx hb dX8_rate_22 (by rw [c11]; decide) (by rw [c11]; decide) (by rw [c11]; rfl) (by decide) ?_
                refine lv_aload_n hx hb dX8_rate_74 rfl (lv_at hl 0 rfl) ?_
                refine lv_iload_n hx hb dX8_rate_75 rfl (lv_at hl 2 rfl) ?_
                obtain ⟨z12, hz12, hf⟩ := obd hf
                refine cV_allI X (As := [.int p2]) (rest := []) (c_X8_rateAsFolder l E a σ tr p2 hz12) pv_X8_rateAsFolder ml_X8_238 ⟨rfl, rfl⟩ ⟨(Nat.le_of_ble_eq_true rfl), (Nat.le_of_ble_eq_true rfl)⟩ hP hD hS (wX8_g0_0 _ _ _ _) rfl (wX8_adr _ _ _ _ _ _) rfl hl.1 rfl (Nat.le_of_ble_eq_true rfl) dX8_rate_76 ⟨Nat.le_refl _, Nat.le_refl _⟩ (fun H locs hP hD hS => ?_)
                have ho := Option.some.inj hf
                have hv : z12.1 = out.1 := by rw [← ho]
                have hw := congrArg (fun o : Int32 × Int64 => (wX8 E a σ o.2)) ho
                exact r_iret X hr hP hS hv hw dX8_rate_79
              · have hf := (if_neg c11).symm.trans hf
                by_cases c13 : p1 = 5
                · have hf := (if_pos c13).symm.trans hf
                  refine lv_tableIn (off := 58) (tgt := 80) hx hb dX8_rate_22 (by rw [c13]; decide) (by rw [c13]; decide) (by rw [c13]; rfl) (by decide) ?_
                  refine lv_aload_n hx hb dX8_rate_80 rfl (lv_at hl 0 rfl) ?_
                  refine lv_iload_n hx hb dX8_rate_81 rfl (lv_at hl 2 rfl) ?_
                  obtain ⟨z14, hz14, hf⟩ := obd hf
                  refine cV_allI X (As := [.int p2]) (rest := []) (c_X8_rateAsDuke l E a σ tr p2 hz14) pv_X8_rateAsDuke ml_X8_241 ⟨rfl, rfl⟩ ⟨(Nat.le_of_ble_eq_true rfl), (Nat.le_of_ble_eq_true rfl)⟩ hP hD hS (wX8_g0_0 _ _ _ _) rfl (wX8_adr _ _ _ _ _ _) rfl hl.1 rfl (Nat.le_of_ble_eq_true rfl) dX8_rate_82 ⟨Nat.le_refl _, Nat.le_refl _⟩ (fun H locs hP hD hS => ?_)
                  have ho := Option.some.inj hf
                  have hv : z14.1 = out.1 := by rw [← ho]
                  have hw := congrArg (fun o : Int32 × Int64 => (wX8 E a σ o.2)) ho
                  exact r_iret X hr hP hS hv hw dX8_rate_85
                · have hf := (if_neg c13).symm.trans hf
                  refine lv_tableOut (tgt := 86) hx hb dX8_rate_22 (tsw_out (fun j h1 h2 he => by
                    have h3 : j = 1 ∨ j = 2 ∨ j = 3 ∨ j = 4 ∨ j = 5 := by omega
                    rcases h3 with rfl | rfl | rfl | rfl | rfl
                    · exact c5 he
                    · exact c7 he
                    · exact c9 he
                    · exact c11 he
                    · exact c13 he)) (by decide) ?_
                  refine lv_aload_n hx hb dX8_rate_86 rfl (lv_at hl 0 rfl) ?_
                  refine lv_iload_n hx hb dX8_rate_87 rfl (lv_at hl 2 rfl) ?_
                  obtain ⟨z15, hz15, hf⟩ := obd hf
                  refine cV_allI X (As := [.int p2]) (rest := []) (c_X8_rateAsCell l E a σ tr p2 hz15) pv_X8_rateAsCell ml_X8_244 ⟨rfl, rfl⟩ ⟨(Nat.le_of_ble_eq_true rfl), (Nat.le_of_ble_eq_true rfl)⟩ hP hD hS (wX8_g0_0 _ _ _ _) rfl (wX8_adr _ _ _ _ _ _) rfl hl.1 rfl (Nat.le_of_ble_eq_true rfl) dX8_rate_88 ⟨Nat.le_refl _, Nat.le_refl _⟩ (fun H locs hP hD hS => ?_)
                  have ho := Option.some.inj hf
                  have hv : z15.1 = out.1 := by rw [← ho]
                  have hw := congrArg (fun o : Int32 × Int64 => (wX8 E a σ o.2)) ho
                  exact r_iret X hr hP hS hv hw dX8_rate_91
      · have hf := (if_pos c4).symm.trans hf
        refine lv_ldc hx hb X.1.2.2.2.1 (X.1.2.2.2.2 _ ki_X8_228) dX8_rate_18 ?_
        have ho := Option.some.inj hf
        have hv : (-1000000) = out.1 := by rw [← ho]
        have hw := congrArg (fun o : Int32 × Int64 => (wX8 E a σ o.2)) ho
        exact r_iret X hr hP hS hv hw dX8_rate_20
def rm_X8_reach : Room := { frames := 6, cells := 0, slots := 0, locals := 146 }
theorem pv_X8_reach : PkV RX8 yX8_reach cX8_reach 4 (some .int) 3 := ⟨im_X8_reach, se_X8_reach, ini_X8, cd_X8_reach, by decide +kernel⟩
set_option maxHeartbeats 4000000 in
set_option maxRecDepth 100000 in
theorem c_X8_reach (l : Launch) (E : Ev) (a : Nat → Nat) (σ : Sg) (tr : Int64) (p1 : Int32) (p2 : Int32) (p3 : Int32) {out : Int32 × Sg} (hf : f_X8_reach σ tr p1 p2 p3 = some out) : MtI l yX8_reach (wl yX8_reach cX8_reach 4 (some .int)) rm_X8_reach E [.ref (a 0), .int p1, .int p2, .int p3] (wX8 E a σ tr) out.1 (wX8 E a out.2 tr) := by
  refine mt_of (QQ := (fun A => va_Qi (fun x (_ : Unit) => x = out.1) (fun _ t => QW E (wX8 E a out.2 tr) t) A)) (by decide) (Nat.le_of_ble_eq_true rfl) (fun p e s m below meth c A ls X hr hP hD hS hl => ?_)
  have hx := X.1.1
  have hb := X.1.2.1
  have hl : lv_has ls 4 [(0, .ref (a 0)), (1, .int p1), (2, .int p2), (3, .int p3)] := hl
  obtain ⟨H, hHe⟩ : ∃ H : Heap, H = s.heap := ⟨_, rfl⟩
  obtain ⟨locs, hLe⟩ : ∃ locs : List Loc, locs = [] := ⟨_, rfl⟩
  have hP : va_P E.1 vwCl (wX8 E a σ tr) H := by rw [hHe]; exact hP
  have hS : va_S A s.heap H locs := by rw [hHe, hLe]; exact hS
  rw [← hLe, show W p l e rm_X8_reach s m ([.ref (a 0), .int p1, .int p2, .int p3] : List Value).toArray below meth c s.heap locs 0 0 = W p l e rm_X8_reach s m ([.ref (a 0), .int p1, .int p2, .int p3] : List Value).toArray below meth c H locs 0 0 from by rw [hHe]]
  refine lv_aload_n hx hb dX8_reach_0 rfl (lv_at hl 0 rfl) ?_
  refine lv_iload_n hx hb dX8_reach_1 rfl (lv_at hl 1 rfl) ?_
  refine lv_iload_n hx hb dX8_reach_2 rfl (lv_at hl 2 rfl) ?_
  obtain ⟨z1, hz1, hf⟩ := obd hf
  refine cV_allI X (As := [.int p1, .int p2]) (rest := []) (c_X8_areTwoCells l E a σ tr p1 p2 hz1) pv_X8_areTwoCells ml_X8_174 ⟨rfl, rfl⟩ ⟨(Nat.le_of_ble_eq_true rfl), (Nat.le_of_ble_eq_true rfl)⟩ hP hD hS (wX8_g0_0 _ _ _ _) rfl (wX8_adr _ _ _ _ _ _) rfl hl.1 rfl (Nat.le_of_ble_eq_true rfl) dX8_reach_3 ⟨Nat.le_refl _, Nat.le_refl _⟩ (fun H locs hP hD hS => ?_)
  refine lv_if_eq (tgt := 14) hx hb dX8_reach_6 (by decide) (fun c2 => ?_) (fun c2 => ?_)
  · have hf := (if_pos c2).symm.trans hf
    refine lv_iconst (v := (-1)) hx hb dX8_reach_14 (by decide) ?_
    have ho := Option.some.inj hf
    have hv : (-1) = out.1 := by rw [← ho]
    have hw := congrArg (fun o : Int32 × Sg => (wX8 E a o.2 tr)) ho
    exact r_iret X hr hP hS hv hw dX8_reach_15
  · have hf := (if_neg c2).symm.trans hf
    refine lv_iload_n hx hb dX8_reach_9 rfl (lv_at hl 3 rfl) ?_
    refine lv_iconst (v := (-1)) hx hb dX8_reach_10 (by decide) ?_
    refine lv_icmp_ge (tgt := 16) hx hb dX8_reach_11 (by decide) (fun c3 => ?_) (fun c3 => ?_)
    · have hf := (if_pos c3).symm.trans hf
      refine lv_aload_n hx hb dX8_reach_16 rfl (lv_at hl 0 rfl) ?_
      refine r_get X hP 0 (wX8_g0_0 _ _ _ _) rfl inc_X8 9 (by decide) fl_X8_66 rfl dX8_reach_17 ?_
      refine lv_aload_n hx hb dX8_reach_20 rfl (lv_at hl 0 rfl) ?_
      refine r_get X hP 0 (wX8_g0_0 _ _ _ _) rfl inc_X8 4 (by decide) fl_X8_35 rfl dX8_reach_21 ?_
      obtain ⟨z4, hz4, hf⟩ := obd hf
      refine cV_putV X (As := [.ref (a 20)]) (rest := []) (c_X5_startFrom l E (sg_off a 43) (sg_off σ 43) (sg_off a 20) (sg_off σ 20) hz4) pv_X5_startFrom ml_X8_197 ⟨rfl, rfl⟩ ⟨(Nat.le_of_ble_eq_true rfl), (Nat.le_of_ble_eq_true rfl)⟩ hP hD hS (wX8_b_0_43_0_20_X5X3 _ _ _ _) rfl (wX5X3_g0_0 _ _ _ _ _) rfl (wX8_p_0_43_0_20_X5X3 _ _ _ _ _) rfl hl.1 rfl (Nat.le_of_ble_eq_true rfl) dX8_reach_24 ⟨Nat.le_refl _, Nat.le_refl _⟩ (fun H locs hP hD hS => ?_)
      refine lv_aload_n hx hb dX8_reach_27 rfl (lv_at hl 0 rfl) ?_
      refine r_get X hP 0 (wX8_g0_0 _ _ _ _) rfl inc_X8 9 (by decide) fl_X8_66 rfl dX8_reach_28 ?_
      refine lv_iload_n hx hb dX8_reach_31 rfl (lv_at hl 1 rfl) ?_
      refine lv_iload_n hx hb dX8_reach_32 rfl (lv_at hl 2 rfl) ?_
      obtain ⟨z5, hz5, hf⟩ := obd hf
      refine cV_putI X (As := [.int p1, .int p2]) (rest := []) (c_X5_findMeeting l E (sg_off a 43) (sg_off (sg_sp σ 43 22 z4) 43) p1 p2 hz5) pv_X5_findMeeting ml_X8_201 ⟨rfl, rfl⟩ ⟨(Nat.le_of_ble_eq_true rfl), (Nat.le_of_ble_eq_true rfl)⟩ hP hD hS (wX8_b_0_43_X5 _ _ _ _) rfl (wX5_g0_0 _ _ _) rfl (wX8_p_0_43_X5 _ _ _ _ _) rfl hl.1 rfl (Nat.le_of_ble_eq_true rfl) dX8_reach_33 ⟨Nat.le_refl _, Nat.le_refl _⟩ (fun H locs hP hD hS => ?_)
      refine lv_if_ne (tgt := 42) hx hb dX8_reach_36 (by decide) (fun c6 => ?_) (fun c6 => ?_)
      · have hf := (if_neg c6).symm.trans hf
        refine lv_iload_n hx hb dX8_reach_42 rfl (lv_at hl 3 rfl) ?_
        refine lv_iconst (v := (-1)) hx hb dX8_reach_43 (by decide) ?_
        refine lv_icmp_ne (tgt := 57) hx hb dX8_reach_44 (by decide) (fun c7 => ?_) (fun c7 => ?_)
        · have hf := (if_neg c7).symm.trans hf
          refine lv_aload_n hx hb dX8_reach_57 rfl (lv_at hl 0 rfl) ?_
          refine r_get X hP 0 (wX8_g0_0 _ _ _ _) rfl inc_X8 9 (by decide) fl_X8_66 rfl dX8_reach_58 ?_
          refine lv_iload_n hx hb dX8_reach_61 rfl (lv_at hl 3 rfl) ?_
          obtain ⟨z8, hz8, hf⟩ := obd hf
          refine cV_roI X (As := [.int p3]) (rest := []) (c_X5_foundFold l E (sg_off a 43) (sg_off (sg_sp (sg_sp σ 43 22 z4) 43 22 z5.2) 43) p3 hz8) pv_X5_foundFold ml_X8_207 ⟨rfl, rfl⟩ ⟨(Nat.le_of_ble_eq_true rfl), (Nat.le_of_ble_eq_true rfl)⟩ hP hD hS (wX8_b_0_43_X5 _ _ _ _) rfl (wX5_g0_0 _ _ _) rfl rfl hl.1 rfl (Nat.le_of_ble_eq_true rfl) dX8_reach_62 ⟨Nat.le_refl _, Nat.le_refl _⟩ (fun H locs hP hS => ?_)
          have ho := Option.some.inj hf
          have hv : z8 = out.1 := by rw [← ho]
          have hw := congrArg (fun o : Int32 × Sg => (wX8 E a o.2 tr)) ho
          exact r_iret X hr hP hS hv hw dX8_reach_65
        · have hf := (if_pos c7).symm.trans hf
          refine lv_aload_n hx hb dX8_reach_47 rfl (lv_at hl 0 rfl) ?_
          refine r_get X hP 0 (wX8_g0_0 _ _ _ _) rfl inc_X8 9 (by decide) fl_X8_66 rfl dX8_reach_48 ?_
          refine r_get X hP 43 (wX8_g0_43 _ _ _ _) rfl inc_X5 0 (by decide) fl_X8_204 rfl dX8_reach_51 ?_
          refine lv_goto (tgt := 65) hx hb dX8_reach_54 (by decide) ?_
          have ho := Option.some.inj hf
          have hv : ((sg_sp (sg_sp σ 43 22 z4) 43 22 z5.2) 43 0) = out.1 := by rw [← ho]
          have hw := congrArg (fun o : Int32 × Sg => (wX8 E a o.2 tr)) ho
          exact r_iret X hr hP hS hv hw dX8_reach_65
      · have hf := (if_pos c6).symm.trans hf
        refine lv_bipush (v := (-9)) hx hb dX8_reach_39 (by decide) ?_
        have ho := Option.some.inj hf
        have hv : (-9) = out.1 := by rw [← ho]
        have hw := congrArg (fun o : Int32 × Sg => (wX8 E a o.2 tr)) ho
        exact r_iret X hr hP hS hv hw dX8_reach_41
    · have hf := (if_neg c3).symm.trans hf
      refine lv_iconst (v := (-1)) hx hb dX8_reach_14 (by decide) ?_
      have ho := Option.some.inj hf
      have hv : (-1) = out.1 := by rw [← ho]
      have hw := congrArg (fun o : Int32 × Sg => (wX8 E a o.2 tr)) ho
      exact r_iret X hr hP hS hv hw dX8_reach_15
def rm_X8_saw : Room := { frames := 2, cells := 0, slots := 0, locals := 43 }
theorem pv_X8_saw : PkV RX8 yX8_saw cX8_saw 3 (some .int) 2 := ⟨im_X8_saw, se_X8_saw, ini_X8, cd_X8_saw, by decide +kernel⟩
set_option maxHeartbeats 4000000 in
set_option maxRecDepth 100000 in
theorem c_X8_saw (l : Launch) (E : Ev) (a : Nat → Nat) (σ : Sg) (tr : Int64) (p1 : Int32) (p2 : Int32) {out : Int32 × Sg} (hf : f_X8_saw σ tr p1 p2 = some out) : MtI l yX8_saw (wl yX8_saw cX8_saw 3 (some .int)) rm_X8_saw E [.ref (a 0), .int p1, .int p2] (wX8 E a σ tr) out.1 (wX8 E a out.2 tr) := by
  refine mt_of (QQ := (fun A => va_Qi (fun x (_ : Unit) => x = out.1) (fun _ t => QW E (wX8 E a out.2 tr) t) A)) (by decide) (Nat.le_of_ble_eq_true rfl) (fun p e s m below meth c A ls X hr hP hD hS hl => ?_)
  have hx := X.1.1
  have hb := X.1.2.1
  have hl : lv_has ls 3 [(0, .ref (a 0)), (1, .int p1), (2, .int p2)] := hl
  obtain ⟨H, hHe⟩ : ∃ H : Heap, H = s.heap := ⟨_, rfl⟩
  obtain ⟨locs, hLe⟩ : ∃ locs : List Loc, locs = [] := ⟨_, rfl⟩
  have hP : va_P E.1 vwCl (wX8 E a σ tr) H := by rw [hHe]; exact hP
  have hS : va_S A s.heap H locs := by rw [hHe, hLe]; exact hS
  rw [← hLe, show W p l e rm_X8_saw s m ([.ref (a 0), .int p1, .int p2] : List Value).toArray below meth c s.heap locs 0 0 = W p l e rm_X8_saw s m ([.ref (a 0), .int p1, .int p2] : List Value).toArray below meth c H locs 0 0 from by rw [hHe]]
  refine lv_aload_n hx hb dX8_saw_0 rfl (lv_at hl 0 rfl) ?_
  refine lv_iload_n hx hb dX8_saw_1 rfl (lv_at hl 1 rfl) ?_
  refine lv_iload_n hx hb dX8_saw_2 rfl (lv_at hl 2 rfl) ?_
  obtain ⟨z1, hz1, hf⟩ := obd hf
  refine cV_allI X (As := [.int p1, .int p2]) (rest := []) (c_X8_areTwoCells l E a σ tr p1 p2 hz1) pv_X8_areTwoCells ml_X8_174 ⟨rfl, rfl⟩ ⟨(Nat.le_of_ble_eq_true rfl), (Nat.le_of_ble_eq_true rfl)⟩ hP hD hS (wX8_g0_0 _ _ _ _) rfl (wX8_adr _ _ _ _ _ _) rfl hl.1 rfl (Nat.le_of_ble_eq_true rfl) dX8_saw_3 ⟨Nat.le_refl _, Nat.le_refl _⟩ (fun H locs hP hD hS => ?_)
  refine lv_if_ne (tgt := 11) hx hb dX8_saw_6 (by decide) (fun c2 => ?_) (fun c2 => ?_)
  · have hf := (if_neg c2).symm.trans hf
    refine lv_aload_n hx hb dX8_saw_11 rfl (lv_at hl 0 rfl) ?_
    refine r_get X hP 0 (wX8_g0_0 _ _ _ _) rfl inc_X8 8 (by decide) fl_X8_59 rfl dX8_saw_12 ?_
    obtain ⟨z3, hz3, hf⟩ := obd hf
    refine cV_roI X (As := []) (rest := []) (c_X4_isFull l E (sg_off a 40) (sg_off σ 40) hz3) pv_X4_isFull ml_X8_214 ⟨rfl, rfl⟩ ⟨(Nat.le_of_ble_eq_true rfl), (Nat.le_of_ble_eq_true rfl)⟩ hP hD hS (wX8_b_0_40_X4 _ _ _ _) rfl (wX4_g0_0 _ _ _) rfl rfl hl.1 rfl (Nat.le_of_ble_eq_true rfl) dX8_saw_15 ⟨Nat.le_refl _, Nat.le_refl _⟩ (fun H locs hP hS => ?_)
    refine lv_if_eq (tgt := 24) hx hb dX8_saw_18 (by decide) (fun c4 => ?_) (fun c4 => ?_)
    · have hf := (if_pos c4).symm.trans hf
      refine lv_aload_n hx hb dX8_saw_24 rfl (lv_at hl 0 rfl) ?_
      refine r_get X hP 0 (wX8_g0_0 _ _ _ _) rfl inc_X8 8 (by decide) fl_X8_59 rfl dX8_saw_25 ?_
      refine lv_iload_n hx hb dX8_saw_28 rfl (lv_at hl 1 rfl) ?_
      refine lv_iload_n hx hb dX8_saw_29 rfl (lv_at hl 2 rfl) ?_
      obtain ⟨z5, hz5, hf⟩ := obd hf
      refine cV_putV X (As := [.int p1, .int p2]) (rest := []) (c_X4_add l E (sg_off a 40) (sg_off σ 40) p1 p2 hz5) pv_X4_add ml_X8_217 ⟨rfl, rfl⟩ ⟨(Nat.le_of_ble_eq_true rfl), (Nat.le_of_ble_eq_true rfl)⟩ hP hD hS (wX8_b_0_40_X4 _ _ _ _) rfl (wX4_g0_0 _ _ _) rfl (wX8_p_0_40_X4 _ _ _ _ _) rfl hl.1 rfl (Nat.le_of_ble_eq_true rfl) dX8_saw_30 ⟨Nat.le_refl _, Nat.le_refl _⟩ (fun H locs hP hD hS => ?_)
      refine lv_aload_n hx hb dX8_saw_33 rfl (lv_at hl 0 rfl) ?_
      refine r_get X hP 0 (wX8_g0_0 _ _ _ _) rfl inc_X8 8 (by decide) fl_X8_59 rfl dX8_saw_34 ?_
      refine r_get X hP 40 (wX8_g0_40 _ _ _ _) rfl inc_X4 0 (by decide) fl_X8_221 rfl dX8_saw_37 ?_
      have ho := Option.some.inj hf
      have hv : ((sg_sp σ 40 3 z5) 40 0) = out.1 := by rw [← ho]
      have hw := congrArg (fun o : Int32 × Sg => (wX8 E a o.2 tr)) ho
      exact r_iret X hr hP hS hv hw dX8_saw_40
    · have hf := (if_neg c4).symm.trans hf
      refine lv_bipush (v := (-3)) hx hb dX8_saw_21 (by decide) ?_
      have ho := Option.some.inj hf
      have hv : (-3) = out.1 := by rw [← ho]
      have hw := congrArg (fun o : Int32 × Sg => (wX8 E a o.2 tr)) ho
      exact r_iret X hr hP hS hv hw dX8_saw_23
  · have hf := (if_pos c2).symm.trans hf
    refine lv_iconst (v := (-1)) hx hb dX8_saw_9 (by decide) ?_
    have ho := Option.some.inj hf
    have hv : (-1) = out.1 := by rw [← ho]
    have hw := congrArg (fun o : Int32 × Sg => (wX8 E a o.2 tr)) ho
    exact r_iret X hr hP hS hv hw dX8_saw_10
def rm_X8_serves : Room := { frames := 6, cells := 0, slots := 0, locals := 147 }
theorem pv_X8_serves : PkV RX8 yX8_serves cX8_serves 4 (some .int) 2 := ⟨im_X8_serves, se_X8_serves, ini_X8, cd_X8_serves, by decide +kernel⟩
set_option maxHeartbeats 4000000 in
set_option maxRecDepth 100000 in
theorem c_X8_serves (l : Launch) (E : Ev) (a : Nat → Nat) (σ : Sg) (tr : Int64) (p1 : Int32) (p2 : Int32) {out : Int32 × Sg} (hf : f_X8_serves σ tr p1 p2 = some out) : MtI l yX8_serves (wl yX8_serves cX8_serves 4 (some .int)) rm_X8_serves E [.ref (a 0), .int p1, .int p2] (wX8 E a σ tr) out.1 (wX8 E a out.2 tr) := by
  refine mt_of (QQ := (fun A => va_Qi (fun x (_ : Unit) => x = out.1) (fun _ t => QW E (wX8 E a out.2 tr) t) A)) (by decide) (Nat.le_of_ble_eq_true rfl) (fun p e s m below meth c A ls X hr hP hD hS hl => ?_)
  have hx := X.1.1
  have hb := X.1.2.1
  have hl : lv_has ls 4 [(0, .ref (a 0)), (1, .int p1), (2, .int p2)] := hl
  obtain ⟨H, hHe⟩ : ∃ H : Heap, H = s.heap := ⟨_, rfl⟩
  obtain ⟨locs, hLe⟩ : ∃ locs : List Loc, locs = [] := ⟨_, rfl⟩
  have hP : va_P E.1 vwCl (wX8 E a σ tr) H := by rw [hHe]; exact hP
  have hS : va_S A s.heap H locs := by rw [hHe, hLe]; exact hS
  rw [← hLe, show W p l e rm_X8_serves s m ([.ref (a 0), .int p1, .int p2] : List Value).toArray below meth c s.heap locs 0 0 = W p l e rm_X8_serves s m ([.ref (a 0), .int p1, .int p2] : List Value).toArray below meth c H locs 0 0 from by rw [hHe]]
  refine lv_aload_n hx hb dX8_serves_0 rfl (lv_at hl 0 rfl) ?_
  refine lv_iload_n hx hb dX8_serves_1 rfl (lv_at hl 1 rfl) ?_
  obtain ⟨z1, hz1, hf⟩ := obd hf
  refine cV_allI X (As := [.int p1]) (rest := []) (c_X8_isCell l E a σ tr p1 hz1) pv_X8_isCell ml_X8_104 ⟨rfl, rfl⟩ ⟨(Nat.le_of_ble_eq_true rfl), (Nat.le_of_ble_eq_true rfl)⟩ hP hD hS (wX8_g0_0 _ _ _ _) rfl (wX8_adr _ _ _ _ _ _) rfl hl.1 rfl (Nat.le_of_ble_eq_true rfl) dX8_serves_2 ⟨Nat.le_refl _, Nat.le_refl _⟩ (fun H locs hP hD hS => ?_)
  refine lv_if_eq (tgt := 13) hx hb dX8_serves_5 (by decide) (fun c2 => ?_) (fun c2 => ?_)
  · have hf := (if_pos c2).symm.trans hf
    refine lv_iconst (v := (-1)) hx hb dX8_serves_13 (by decide) ?_
    have ho := Option.some.inj hf
    have hv : (-1) = out.1 := by rw [← ho]
    have hw := congrArg (fun o : Int32 × Sg => (wX8 E a o.2 tr)) ho
    exact r_iret X hr hP hS hv hw dX8_serves_14
  · have hf := (if_neg c2).symm.trans hf
    refine lv_iload_n hx hb dX8_serves_8 rfl (lv_at hl 2 rfl) ?_
    refine lv_iconst (v := (-1)) hx hb dX8_serves_9 (by decide) ?_
    refine lv_icmp_ge (tgt := 15) hx hb dX8_serves_10 (by decide) (fun c3 => ?_) (fun c3 => ?_)
    · have hf := (if_pos c3).symm.trans hf
      refine lv_aload_n hx hb dX8_serves_15 rfl (lv_at hl 0 rfl) ?_
      refine r_get X hP 0 (wX8_g0_0 _ _ _ _) rfl inc_X8 9 (by decide) fl_X8_66 rfl dX8_serves_16 ?_
      refine lv_aload_n hx hb dX8_serves_19 rfl (lv_at hl 0 rfl) ?_
      refine r_get X hP 0 (wX8_g0_0 _ _ _ _) rfl inc_X8 4 (by decide) fl_X8_35 rfl dX8_serves_20 ?_
      obtain ⟨z4, hz4, hf⟩ := obd hf
      refine cV_putV X (As := [.ref (a 20)]) (rest := []) (c_X5_startFrom l E (sg_off a 43) (sg_off σ 43) (sg_off a 20) (sg_off σ 20) hz4) pv_X5_startFrom ml_X8_197 ⟨rfl, rfl⟩ ⟨(Nat.le_of_ble_eq_true rfl), (Nat.le_of_ble_eq_true rfl)⟩ hP hD hS (wX8_b_0_43_0_20_X5X3 _ _ _ _) rfl (wX5X3_g0_0 _ _ _ _ _) rfl (wX8_p_0_43_0_20_X5X3 _ _ _ _ _) rfl hl.1 rfl (Nat.le_of_ble_eq_true rfl) dX8_serves_23 ⟨Nat.le_refl _, Nat.le_refl _⟩ (fun H locs hP hD hS => ?_)
      refine lv_aload_n hx hb dX8_serves_26 rfl (lv_at hl 0 rfl) ?_
      refine r_get X hP 0 (wX8_g0_0 _ _ _ _) rfl inc_X8 9 (by decide) fl_X8_66 rfl dX8_serves_27 ?_
      refine lv_iload_n hx hb dX8_serves_30 rfl (lv_at hl 1 rfl) ?_
      refine lv_aload_n hx hb dX8_serves_31 rfl (lv_at hl 0 rfl) ?_
      refine r_get X hP 0 (wX8_g0_0 _ _ _ _) rfl inc_X8 2 (by decide) fl_X8_24 rfl dX8_serves_32 ?_
      refine r_get X hP 9 (wX8_g0_9 _ _ _ _) rfl inc_X1 3 (by decide) fl_X8_121 rfl dX8_serves_35 ?_
      obtain ⟨z5, hz5, hf⟩ := obd hf
      refine cV_putI X (As := [.int p1, .ref (a 10)]) (rest := []) (c_X5_findBestGain l E (sg_off a 43) (sg_off (sg_sp σ 43 22 z4) 43) (sg_off a 10) (sg_off (sg_sp σ 43 22 z4) 10) p1 hz5) pv_X5_findBestGain ml_X8_211 ⟨rfl, rfl⟩ ⟨(Nat.le_of_ble_eq_true rfl), (Nat.le_of_ble_eq_true rfl)⟩ hP hD hS (wX8_b_0_43_0_10_X5AI16 _ _ _ _) rfl (wX5AI16_g0_0 _ _ _ _ _) rfl (wX8_p_0_43_0_10_X5AI16 _ _ _ _ _) rfl hl.1 rfl (Nat.le_of_ble_eq_true rfl) dX8_serves_38 ⟨Nat.le_refl _, Nat.le_refl _⟩ (fun H locs hP hD hS => ?_)
      refine lv_istore_n (lv' := [(3, .int z5.1), (0, .ref (a 0)), (1, .int p1), (2, .int p2)]) hx hb dX8_serves_41 rfl hl (by decide) rfl (fun ls hl => ?_)
      refine lv_iload_n hx hb dX8_serves_42 rfl (lv_at hl 3 rfl) ?_
      refine lv_iconst (v := (-1)) hx hb dX8_serves_43 (by decide) ?_
      refine lv_icmp_ne (tgt := 51) hx hb dX8_serves_44 (by decide) (fun c6 => ?_) (fun c6 => ?_)
      · have hf := (if_neg c6).symm.trans hf
        refine lv_aload_n hx hb dX8_serves_51 rfl (lv_at hl 1 rfl) ?_
        refine r_get X hP 0 (wX8_g0_0 _ _ _ _) rfl inc_X8 9 (by decide) fl_X8_66 rfl dX8_serves_52 ?_
        refine lv_iload_n hx hb dX8_serves_55 rfl (lv_at hl 3 rfl) ?_
        obtain ⟨z7, hz7, hf⟩ := obd hf
        refine cV_roI X (As := [.int p2]) (rest := []) (c_X5_foundFold l E (sg_off a 43) (sg_off (sg_sp (sg_sp σ 43 22 z4) 43 22 z5.2) 43) p2 hz7) pv_X5_foundFold ml_X8_207 ⟨rfl, rfl⟩ ⟨(Nat.le_of_ble_eq_true rfl), (Nat.le_of_ble_eq_true rfl)⟩ hP hD hS (wX8_b_0_43_X5 _ _ _ _) rfl (wX5_g0_0 _ _ _) rfl rfl hl.1 rfl (Nat.le_of_ble_eq_true rfl) dX8_serves_56 ⟨Nat.le_refl _, Nat.le_refl _⟩ (fun H locs hP hS => ?_)
        have ho := Option.some.inj hf
        have hv : z7 = out.1 := by rw [← ho]
        have hw := congrArg (fun o : Int32 × Sg => (wX8 E a o.2 tr)) ho
        exact r_iret X hr hP hS hv hw dX8_serves_59
      · have hf := (if_pos c6).symm.trans hf
        refine lv_iload_n hx hb dX8_serves_47 rfl (lv_at hl 0 rfl) ?_
        refine lv_goto (tgt := 59) hx hb dX8_serves_48 (by decide) ?_
        have ho := Option.some.inj hf
        have hv : z5.1 = out.1 := by rw [← ho]
        have hw := congrArg (fun o : Int32 × Sg => (wX8 E a o.2 tr)) ho
        exact r_iret X hr hP hS hv hw dX8_serves_59
    · have hf := (if_neg c3).symm.trans hf
      refine lv_iconst (v := (-1)) hx hb dX8_serves_13 (by decide) ?_
      have ho := Option.some.inj hf
      have hv : (-1) = out.1 := by rw [← ho]
      have hw := congrArg (fun o : Int32 × Sg => (wX8 E a o.2 tr)) ho
      exact r_iret X hr hP hS hv hw dX8_serves_14
def rm_X8_touch : Room := { frames := 2, cells := 0, slots := 0, locals := 44 }
theorem pv_X8_touch : PkV RX8 yX8_touch cX8_touch 3 (some .int) 2 := ⟨im_X8_touch, se_X8_touch, ini_X8, cd_X8_touch, by decide +kernel⟩
set_option maxHeartbeats 4000000 in
set_option maxRecDepth 100000 in
theorem c_X8_touch (l : Launch) (E : Ev) (a : Nat → Nat) (σ : Sg) (tr : Int64) (p1 : Int32) (p2 : Int32) {out : Int32} (hf : f_X8_touch σ tr p1 p2 = some out) : MtI l yX8_touch (wl yX8_touch cX8_touch 3 (some .int)) rm_X8_touch E [.ref (a 0), .int p1, .int p2] (wX8 E a σ tr) out (wX8 E a σ tr) := by
  refine mt_of (QQ := (fun A => va_Qi (fun x (_ : Unit) => x = out) (fun _ t => QW E (wX8 E a σ tr) t) A)) (by decide) (Nat.le_of_ble_eq_true rfl) (fun p e s m below meth c A ls X hr hP hD hS hl => ?_)
  have hx := X.1.1
  have hb := X.1.2.1
  have hl : lv_has ls 3 [(0, .ref (a 0)), (1, .int p1), (2, .int p2)] := hl
  obtain ⟨H, hHe⟩ : ∃ H : Heap, H = s.heap := ⟨_, rfl⟩
  obtain ⟨locs, hLe⟩ : ∃ locs : List Loc, locs = [] := ⟨_, rfl⟩
  have hP : va_P E.1 vwCl (wX8 E a σ tr) H := by rw [hHe]; exact hP
  have hS : va_S A s.heap H locs := by rw [hHe, hLe]; exact hS
  rw [← hLe, show W p l e rm_X8_touch s m ([.ref (a 0), .int p1, .int p2] : List Value).toArray below meth c s.heap locs 0 0 = W p l e rm_X8_touch s m ([.ref (a 0), .int p1, .int p2] : List Value).toArray below meth c H locs 0 0 from by rw [hHe]]
  refine lv_aload_n hx hb dX8_touch_0 rfl (lv_at hl 0 rfl) ?_
  refine lv_iload_n hx hb dX8_touch_1 rfl (lv_at hl 1 rfl) ?_
  refine lv_iload_n hx hb dX8_touch_2 rfl (lv_at hl 2 rfl) ?_
  obtain ⟨z1, hz1, hf⟩ := obd hf
  refine cV_allI X (As := [.int p1, .int p2]) (rest := []) (c_X8_areTwoCells l E a σ tr p1 p2 hz1) pv_X8_areTwoCells ml_X8_174 ⟨rfl, rfl⟩ ⟨(Nat.le_of_ble_eq_true rfl), (Nat.le_of_ble_eq_true rfl)⟩ hP hD hS (wX8_g0_0 _ _ _ _) rfl (wX8_adr _ _ _ _ _ _) rfl hl.1 rfl (Nat.le_of_ble_eq_true rfl) dX8_touch_3 ⟨Nat.le_refl _, Nat.le_refl _⟩ (fun H locs hP hD hS => ?_)
  refine lv_if_eq (tgt := 21) hx hb dX8_touch_6 (by decide) (fun c2 => ?_) (fun c2 => ?_)
  · have hf := (if_pos c2).symm.trans hf
    refine lv_iconst (v := (-1)) hx hb dX8_touch_21 (by decide) ?_
    have ho := Option.some.inj hf
    exact r_iret X hr hP hS ho rfl dX8_touch_22
  · have hf := (if_neg c2).symm.trans hf
    refine lv_aload_n hx hb dX8_touch_9 rfl (lv_at hl 0 rfl) ?_
    refine r_get X hP 0 (wX8_g0_0 _ _ _ _) rfl inc_X8 4 (by decide) fl_X8_35 rfl dX8_touch_10 ?_
    refine lv_iload_n hx hb dX8_touch_13 rfl (lv_at hl 1 rfl) ?_
    refine lv_iload_n hx hb dX8_touch_14 rfl (lv_at hl 2 rfl) ?_
    obtain ⟨z3, hz3, hf⟩ := obd hf
    refine cV_roI X (As := [.int p1, .int p2]) (rest := []) (c_X3_touching l E (sg_off a 20) (sg_off σ 20) p1 p2 hz3) pv_X3_touching ml_X8_178 ⟨rfl, rfl⟩ ⟨(Nat.le_of_ble_eq_true rfl), (Nat.le_of_ble_eq_true rfl)⟩ hP hD hS (wX8_b_0_20_X3 _ _ _ _) rfl (wX3_g0_0 _ _ _) rfl rfl hl.1 rfl (Nat.le_of_ble_eq_true rfl) dX8_touch_15 ⟨Nat.le_refl _, Nat.le_refl _⟩ (fun H locs hP hS => ?_)
    refine lv_goto (tgt := 22) hx hb dX8_touch_18 (by decide) ?_
    have ho := Option.some.inj hf
    exact r_iret X hr hP hS ho rfl dX8_touch_22
def rm_X8_trace : Room := { frames := 0, cells := 0, slots := 0, locals := 0 }
theorem pv_X8_trace : PkV RX8 yX8_trace cX8_trace 1 (some .long) 0 := ⟨im_X8_trace, se_X8_trace, ini_X8, cd_X8_trace, by decide +kernel⟩
set_option maxHeartbeats 4000000 in
set_option maxRecDepth 100000 in
theorem c_X8_trace (l : Launch) (E : Ev) (a : Nat → Nat) (σ : Sg) (tr : Int64) {out : Int64} (hf : f_X8_trace σ tr = some out) : MtL l yX8_trace (wl yX8_trace cX8_trace 1 (some .long)) rm_X8_trace E [.ref (a 0)] (wX8 E a σ tr) out (wX8 E a σ tr) := by
  refine mt_of (QQ := (fun A => va_Ql (fun x (_ : Unit) => x = out) (fun _ t => QW E (wX8 E a σ tr) t) A)) (by decide) (Nat.le_of_ble_eq_true rfl) (fun p e s m below meth c A ls X hr hP hD hS hl => ?_)
  have hx := X.1.1
  have hb := X.1.2.1
  have hl : lv_has ls 1 [(0, .ref (a 0))] := hl
  obtain ⟨H, hHe⟩ : ∃ H : Heap, H = s.heap := ⟨_, rfl⟩
  obtain ⟨locs, hLe⟩ : ∃ locs : List Loc, locs = [] := ⟨_, rfl⟩
  have hP : va_P E.1 vwCl (wX8 E a σ tr) H := by rw [hHe]; exact hP
  have hS : va_S A s.heap H locs := by rw [hHe, hLe]; exact hS
  rw [← hLe, show W p l e rm_X8_trace s m ([.ref (a 0)] : List Value).toArray below meth c s.heap locs 0 0 = W p l e rm_X8_trace s m ([.ref (a 0)] : List Value).toArray below meth c H locs 0 0 from by rw [hHe]]
  refine lv_aload_n hx hb dX8_trace_0 rfl (lv_at hl 0 rfl) ?_
  refine r_get X hP 0 (wX8_g0_0 _ _ _ _) rfl inc_X8 10 (by decide) fl_X8_70 rfl dX8_trace_1 ?_
  have ho := Option.some.inj hf
  exact r_lret X hr hP hS ho rfl dX8_trace_4
def rm_X8_type : Room := { frames := 1, cells := 0, slots := 0, locals := 21 }
theorem pv_X8_type : PkV RX8 yX8_type cX8_type 5 (some .int) 2 := ⟨im_X8_type, se_X8_type, ini_X8, cd_X8_type, by decide +kernel⟩
set_option maxHeartbeats 4000000 in
set_option maxRecDepth 100000 in
theorem c_X8_type (l : Launch) (E : Ev) (a : Nat → Nat) (σ : Sg) (tr : Int64) (p1 : Int64) (p2 : Int32) {out : Int32 × Sg} (hf : f_X8_type σ tr p1 p2 = some out) : MtI l yX8_type (wl yX8_type cX8_type 5 (some .int)) rm_X8_type E [.ref (a 0), .long p1, .int p2] (wX8 E a σ tr) out.1 (wX8 E a out.2 tr) := by
  refine mt_of (QQ := (fun A => va_Qi (fun x (_ : Unit) => x = out.1) (fun _ t => QW E (wX8 E a out.2 tr) t) A)) (by decide) (Nat.le_of_ble_eq_true rfl) (fun p e s m below meth c A ls X hr hP hD hS hl => ?_)
  have hx := X.1.1
  have hb := X.1.2.1
  have hl : lv_has ls 5 [(0, .ref (a 0)), (1, .long p1), (3, .int p2)] := hl
  obtain ⟨H, hHe⟩ : ∃ H : Heap, H = s.heap := ⟨_, rfl⟩
  obtain ⟨locs, hLe⟩ : ∃ locs : List Loc, locs = [] := ⟨_, rfl⟩
  have hP : va_P E.1 vwCl (wX8 E a σ tr) H := by rw [hHe]; exact hP
  have hS : va_S A s.heap H locs := by rw [hHe, hLe]; exact hS
  rw [← hLe, show W p l e rm_X8_type s m ([.ref (a 0), .long p1, .int p2] : List Value).toArray below meth c s.heap locs 0 0 = W p l e rm_X8_type s m ([.ref (a 0), .long p1, .int p2] : List Value).toArray below meth c H locs 0 0 from by rw [hHe]]
  refine lv_iload_n hx hb dX8_type_0 rfl (lv_at hl 2 rfl) ?_
  refine lv_iconst (v := 1) hx hb dX8_type_1 (by decide) ?_
  refine lv_icmp_lt (tgt := 11) hx hb dX8_type_2 (by decide) (fun c1 => ?_) (fun c1 => ?_)
  · have hf := (if_pos c1).symm.trans hf
    refine lv_iconst (v := (-1)) hx hb dX8_type_11 (by decide) ?_
    have ho := Option.some.inj hf
    have hv : (-1) = out.1 := by rw [← ho]
    have hw := congrArg (fun o : Int32 × Sg => (wX8 E a o.2 tr)) ho
    exact r_iret X hr hP hS hv hw dX8_type_12
  · have hf := (if_neg c1).symm.trans hf
    refine lv_iload_n hx hb dX8_type_5 rfl (lv_at hl 2 rfl) ?_
    refine lv_bipush (v := 8) hx hb dX8_type_6 (by decide) ?_
    refine lv_icmp_le (tgt := 13) hx hb dX8_type_8 (by decide) (fun c2 => ?_) (fun c2 => ?_)
    · have hf := (if_pos c2).symm.trans hf
      refine lv_aload_n hx hb dX8_type_13 rfl (lv_at hl 0 rfl) ?_
      refine r_get X hP 0 (wX8_g0_0 _ _ _ _) rfl inc_X8 1 (by decide) fl_X8_20 rfl dX8_type_14 ?_
      refine r_get X hP 2 (wX8_g0_2 _ _ _ _) rfl inc_X7 0 (by decide) fl_X8_77 rfl dX8_type_17 ?_
      refine lv_iload_n hx hb dX8_type_20 rfl (lv_at hl 2 rfl) ?_
      refine lv_iadd hx hb dX8_type_21 ?_
      refine lv_sipush (v := 200) hx hb dX8_type_22 (by decide) ?_
      refine lv_icmp_le (tgt := 31) hx hb dX8_type_25 (by decide) (fun c3 => ?_) (fun c3 => ?_)
      · have hf := (if_pos c3).symm.trans hf
        refine lv_iload_n hx hb dX8_type_31 rfl (lv_at hl 2 rfl) ?_
        refine lv_iconst (v := 1) hx hb dX8_type_32 (by decide) ?_
        refine lv_isub hx hb dX8_type_33 ?_
        refine lv_istore (lv' := [(4, .int (p2 - 1)), (0, .ref (a 0)), (1, .long p1), (3, .int p2)]) hx hb dX8_type_34 hl (by decide) rfl (fun ls hl => ?_)
        have J1 : ∀ (g4 : Sg), j_X8_type_1 g4 = some out → ∀ (H : Heap) (locs : List Loc) (ls : Array Slot), va_P E.1 vwCl (wX8 E a g4 tr) H → va_D A (wX8 E a g4 tr) → va_S A s.heap H locs → lv_has ls 5 [(0, .ref (a 0))] → W p l e rm_X8_type s m ([.ref (a 0), .long p1, .int p2] : List Value).toArray below meth c H locs 0 0 (MQ below (va_Qi (fun x (_ : Unit) => x = out.1) (fun _ t => QW E (wX8 E a out.2 tr) t) A) ([.ref (a 0), .long p1, .int p2] : List Value).toArray s 0 0 A) (F0 m 66 ls []) := by
          intro g4 hf H locs ls hP hD hS hl
          refine lv_aload_n hx hb dX8_type_66 rfl (lv_at hl 0 rfl) ?_
          refine r_get X hP 0 (wX8_g0_0 _ _ _ _) rfl inc_X8 1 (by decide) fl_X8_20 rfl dX8_type_67 ?_
          refine r_get X hP 2 (wX8_g0_2 _ _ _ _) rfl inc_X7 0 (by decide) fl_X8_77 rfl dX8_type_70 ?_
          have ho := Option.some.inj hf
          have hv : (g4 2 0) = out.1 := by rw [← ho]
          have hw := congrArg (fun o : Int32 × Sg => (wX8 E a o.2 tr)) ho
          exact r_iret X hr hP hS hv hw dX8_type_73
        have L8 := lc2_ind (o := out) (step := (s_X8_type_36 p1 j_X8_type_1)) (fun x5 g6 => ∀ (H : Heap) (locs : List Loc) (ls : Array Slot), va_P E.1 vwCl (wX8 E a g6 tr) H → va_D A (wX8 E a g6 tr) → va_S A s.heap H locs → lv_has ls 5 [(0, .ref (a 0)), (1, .long p1), (4, .int x5)] → W p l e rm_X8_type s m ([.ref (a 0), .long p1, .int p2] : List Value).toArray below meth c H locs 0 0 (MQ below (va_Qi (fun x (_ : Unit) => x = out.1) (fun _ t => QW E (wX8 E a out.2 tr) t) A) ([.ref (a 0), .long p1, .int p2] : List Value).toArray s 0 0 A) (F0 m 36 ls [])) (fun x5 g6 k7 ih8 hf H locs ls hP hD hS hl => by
          refine lv_iload hx hb dX8_type_36 (lv_at hl 2 rfl) ?_
          refine lv_if_lt (tgt := 66) hx hb dX8_type_38 (by decide) (fun c9 => ?_) (fun c9 => ?_)
          · have hf := (if_pos c9).symm.trans hf
            exact J1 g6 hf H locs ls hP hD hS (lv_sub hl [0] rfl)
          · have hf := (if_neg c9).symm.trans hf
            refine lv_aload_n hx hb dX8_type_41 rfl (lv_at hl 0 rfl) ?_
            refine r_get X hP 0 (wX8_g0_0 _ _ _ _) rfl inc_X8 1 (by decide) fl_X8_20 rfl dX8_type_42 ?_
            refine lv_lload_n hx hb dX8_type_45 rfl (lv_at hl 1 rfl) ?_
            refine lv_bipush (v := 8) hx hb dX8_type_46 (by decide) ?_
            refine lv_iload hx hb dX8_type_48 (lv_at hl 2 rfl) ?_
            refine lv_imul hx hb dX8_type_50 ?_
            refine lv_lushr hx hb dX8_type_51 rfl ?_
            refine lv_l2i hx hb dX8_type_52 rfl ?_
            refine lv_sipush (v := 255) hx hb dX8_type_53 (by decide) ?_
            refine lv_iand hx hb dX8_type_56 ?_
            obtain ⟨z10, hz10, hf⟩ := obd hf
            refine cV_putV X (As := [.int ((((p1 : Int64).toUInt64 >>> (((8 * x5) : Int32).toInt64.toUInt64 &&& Int64.toUInt64 63)).toInt64 : Int64).toInt32 &&& 255)]) (rest := []) (c_X7_append l E (sg_off a 2) (sg_off g6 2) ((((p1 : Int64).toUInt64 >>> (((8 * x5) : Int32).toInt64.toUInt64 &&& Int64.toUInt64 63)).toInt64 : Int64).toInt32 &&& 255) hz10) pv_X7_append ml_X8_83 ⟨rfl, rfl⟩ ⟨(Nat.le_of_ble_eq_true rfl), (Nat.le_of_ble_eq_true rfl)⟩ hP hD hS (wX8_b_0_2_X7 _ _ _ _) rfl (wX7_g0_0 _ _ _) rfl (wX8_p_0_2_X7 _ _ _ _ _) rfl hl.1 rfl (Nat.le_of_ble_eq_true rfl) dX8_type_57 ⟨Nat.le_refl _, Nat.le_refl _⟩ (fun H locs hP hD hS => ?_)
            refine lv_iinc (v := (x5 + (-1))) (lv' := [(4, .int (x5 + (-1))), (0, .ref (a 0)), (1, .long p1)]) hx hb dX8_type_60 hl (k := 2) rfl rfl (by decide) rfl (fun ls hl => ?_)
            refine lv_goto (tgt := 36) hx hb dX8_type_63 (by decide) ?_
            exact ih8 (x5 + (-1)) (sg_sp g6 2 2 z10) hf H locs ls hP hD hS (lv_sub hl [1, 2, 0] rfl))
        exact L8 1000 (p2 - 1) σ hf H locs ls hP hD hS (lv_sub hl [1, 2, 0] rfl)
      · have hf := (if_neg c3).symm.trans hf
        refine lv_bipush (v := (-3)) hx hb dX8_type_28 (by decide) ?_
        have ho := Option.some.inj hf
        have hv : (-3) = out.1 := by rw [← ho]
        have hw := congrArg (fun o : Int32 × Sg => (wX8 E a o.2 tr)) ho
        exact r_iret X hr hP hS hv hw dX8_type_30
    · have hf := (if_neg c2).symm.trans hf
      refine lv_iconst (v := (-1)) hx hb dX8_type_11 (by decide) ?_
      have ho := Option.some.inj hf
      have hv : (-1) = out.1 := by rw [← ho]
      have hw := congrArg (fun o : Int32 × Sg => (wX8 E a o.2 tr)) ho
      exact r_iret X hr hP hS hv hw dX8_type_12
def rm_X8_undo : Room := { frames := 5, cells := 0, slots := 0, locals := 117 }
theorem pv_X8_undo : PkV RX8 yX8_undo cX8_undo 1 (some .int) 0 := ⟨im_X8_undo, se_X8_undo, ini_X8, cd_X8_undo, by decide +kernel⟩
set_option maxHeartbeats 4000000 in
set_option maxRecDepth 100000 in
theorem c_X8_undo (l : Launch) (E : Ev) (a : Nat → Nat) (σ : Sg) (tr : Int64) {out : Int32 × Sg} (hf : f_X8_undo σ tr = some out) : MtI l yX8_undo (wl yX8_undo cX8_undo 1 (some .int)) rm_X8_undo E [.ref (a 0)] (wX8 E a σ tr) out.1 (wX8 E a out.2 tr) := by
  refine mt_of (QQ := (fun A => va_Qi (fun x (_ : Unit) => x = out.1) (fun _ t => QW E (wX8 E a out.2 tr) t) A)) (by decide) (Nat.le_of_ble_eq_true rfl) (fun p e s m below meth c A ls X hr hP hD hS hl => ?_)
  have hx := X.1.1
  have hb := X.1.2.1
  have hl : lv_has ls 1 [(0, .ref (a 0))] := hl
  obtain ⟨H, hHe⟩ : ∃ H : Heap, H = s.heap := ⟨_, rfl⟩
  obtain ⟨locs, hLe⟩ : ∃ locs : List Loc, locs = [] := ⟨_, rfl⟩
  have hP : va_P E.1 vwCl (wX8 E a σ tr) H := by rw [hHe]; exact hP
  have hS : va_S A s.heap H locs := by rw [hHe, hLe]; exact hS
  rw [← hLe, show W p l e rm_X8_undo s m ([.ref (a 0)] : List Value).toArray below meth c s.heap locs 0 0 = W p l e rm_X8_undo s m ([.ref (a 0)] : List Value).toArray below meth c H locs 0 0 from by rw [hHe]]
  refine lv_aload_n hx hb dX8_undo_0 rfl (lv_at hl 0 rfl) ?_
  refine r_get X hP 0 (wX8_g0_0 _ _ _ _) rfl inc_X8 6 (by decide) fl_X8_48 rfl dX8_undo_1 ?_
  refine r_get X hP 30 (wX8_g0_30 _ _ _ _) rfl inc_X2 2 (by decide) fl_X8_154 rfl dX8_undo_4 ?_
  refine lv_if_ne (tgt := 13) hx hb dX8_undo_7 (by decide) (fun c1 => ?_) (fun c1 => ?_)
  · have hf := (if_neg c1).symm.trans hf
    refine lv_aload_n hx hb dX8_undo_13 rfl (lv_at hl 0 rfl) ?_
    refine r_get X hP 0 (wX8_g0_0 _ _ _ _) rfl inc_X8 6 (by decide) fl_X8_48 rfl dX8_undo_14 ?_
    refine lv_dup hx hb dX8_undo_17 rfl ?_
    refine r_get X hP 30 (wX8_g0_30 _ _ _ _) rfl inc_X2 2 (by decide) fl_X8_154 rfl dX8_undo_18 ?_
    refine lv_iconst (v := 1) hx hb dX8_undo_21 (by decide) ?_
    refine lv_isub hx hb dX8_undo_22 ?_
    refine r_put X hP hD hS 30 (wX8_g0_30 _ _ _ _) rfl inc_X2 tyX2 tyX2_ok nmX2 2 (by decide) fl_X8_154 rfl (ty := .int) rfl rfl rfl (Nat.le_of_ble_eq_true rfl) (wX8_s0_30_2 _ _ _ _ _) dX8_undo_23 (fun H locs hP hD hS => ?_)
    refine lv_aload_n hx hb dX8_undo_26 rfl (lv_at hl 0 rfl) ?_
    obtain ⟨z2, hz2, hf⟩ := obd hf
    refine cV_allV X (As := []) (rest := []) (c_X8_foldAsNowTells l E a (sg_st σ 30 2 ((σ 30 2) - 1)) tr hz2) pv_X8_foldAsNowTells ml_X8_157 ⟨rfl, rfl⟩ ⟨(Nat.le_of_ble_eq_true rfl), (Nat.le_of_ble_eq_true rfl)⟩ hP hD hS (wX8_g0_0 _ _ _ _) rfl (wX8_adr _ _ _ _ _ _) rfl hl.1 rfl (Nat.le_of_ble_eq_true rfl) dX8_undo_27 ⟨Nat.le_refl _, Nat.le_refl _⟩ (fun H locs hP hD hS => ?_)
    refine lv_aload_n hx hb dX8_undo_30 rfl (lv_at hl 0 rfl) ?_
    refine r_get X hP 0 (wX8_g0_0 _ _ _ _) rfl inc_X8 6 (by decide) fl_X8_48 rfl dX8_undo_31 ?_
    refine r_get X hP 30 (wX8_g0_30 _ _ _ _) rfl inc_X2 2 (by decide) fl_X8_154 rfl dX8_undo_34 ?_
    have ho := Option.some.inj hf
    have hv : (z2 30 2) = out.1 := by rw [← ho]
    have hw := congrArg (fun o : Int32 × Sg => (wX8 E a o.2 tr)) ho
    exact r_iret X hr hP hS hv hw dX8_undo_37
  · have hf := (if_pos c1).symm.trans hf
    refine lv_bipush (v := (-2)) hx hb dX8_undo_10 (by decide) ?_
    have ho := Option.some.inj hf
    have hv : (-2) = out.1 := by rw [← ho]
    have hw := congrArg (fun o : Int32 × Sg => (wX8 E a o.2 tr)) ho
    exact r_iret X hr hP hS hv hw dX8_undo_12
