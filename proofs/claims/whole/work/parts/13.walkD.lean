def rm_X9_cells : Room := { frames := 0, cells := 0, slots := 0, locals := 0 }
theorem pv_X9_cells : PkV RX9 yX9_cells cX9_cells 1 (some .int) 0 := ⟨im_X9_cells, se_X9_cells, ini_X9, cd_X9_cells, by decide +kernel⟩
set_option maxHeartbeats 4000000 in
set_option maxRecDepth 100000 in
theorem c_X9_cells (l : Launch) (E : Ev) (a : Nat → Nat) (σ : Sg) (tr : Int64) {out : Int32} (hf : f_X9_cells σ tr = some out) : MtI l yX9_cells (wl yX9_cells cX9_cells 1 (some .int)) rm_X9_cells E [.ref (a 0)] (wX9 E a σ tr) out (wX9 E a σ tr) := by
  refine mt_of (QQ := (fun A => va_Qi (fun x (_ : Unit) => x = out) (fun _ t => QW E (wX9 E a σ tr) t) A)) (by decide) (Nat.le_of_ble_eq_true rfl) (fun p e s m below meth c A ls X hr hP hD hS hl => ?_)
  have hx := X.1.1
  have hb := X.1.2.1
  have hl : lv_has ls 1 [(0, .ref (a 0))] := hl
  obtain ⟨H, hHe⟩ : ∃ H : Heap, H = s.heap := ⟨_, rfl⟩
  obtain ⟨locs, hLe⟩ : ∃ locs : List Loc, locs = [] := ⟨_, rfl⟩
  have hP : va_P E.1 vwCl (wX9 E a σ tr) H := by rw [hHe]; exact hP
  have hS : va_S A s.heap H locs := by rw [hHe, hLe]; exact hS
  rw [← hLe, show W p l e rm_X9_cells s m ([.ref (a 0)] : List Value).toArray below meth c s.heap locs 0 0 = W p l e rm_X9_cells s m ([.ref (a 0)] : List Value).toArray below meth c H locs 0 0 from by rw [hHe]]
  refine lv_aload_n hx hb dX9_cells_0 rfl (lv_at hl 0 rfl) ?_
  refine r_get X hP 0 (wX9_g0_0 _ _ _ _) rfl inc_X9 3 (by decide) fl_X9_13 rfl dX9_cells_1 ?_
  refine lv_iconst (v := 0) hx hb dX9_cells_4 (by decide) ?_
  obtain ⟨h1, hf⟩ := chk_in hf
  refine r_iald X hP 2 (wX9_g0_2 _ _ _ _) h1 dX9_cells_5 ?_
  refine lv_aload_n hx hb dX9_cells_6 rfl (lv_at hl 0 rfl) ?_
  refine r_get X hP 0 (wX9_g0_0 _ _ _ _) rfl inc_X9 3 (by decide) fl_X9_13 rfl dX9_cells_7 ?_
  refine lv_iconst (v := 1) hx hb dX9_cells_10 (by decide) ?_
  obtain ⟨h2, hf⟩ := chk_in hf
  refine r_iald X hP 2 (wX9_g0_2 _ _ _ _) h2 dX9_cells_11 ?_
  refine lv_imul hx hb dX9_cells_12 ?_
  have ho := Option.some.inj hf
  exact r_iret X hr hP hS ho rfl dX9_cells_13
def rm_X9_in : Room := { frames := 0, cells := 0, slots := 0, locals := 0 }
theorem ps_X9_in : PkS yX9_in cX9_in 3 (some .boolean) 3 := ⟨sm_X9_in, ini_X9, cd_X9_in, by decide +kernel⟩
set_option maxHeartbeats 4000000 in
set_option maxRecDepth 100000 in
theorem c_X9_in (l : Launch) (E : Ev) (p1 : Int32) (p2 : Int32) (p3 : Int32) {out : Int32} (hf : f_X9_in p1 p2 p3 = some out) : MtI l yX9_in (wl yX9_in cX9_in 3 (some .boolean)) rm_X9_in E [.int p1, .int p2, .int p3] ([] : va_W) out ([] : va_W) := by
  refine mt_of (QQ := (fun A => va_Qi (fun x (_ : Unit) => x = out) (fun _ t => QW E ([] : va_W) t) A)) (by decide) (Nat.le_of_ble_eq_true rfl) (fun p e s m below meth c A ls X hr hP hD hS hl => ?_)
  have hx := X.1.1
  have hb := X.1.2.1
  have hl : lv_has ls 3 [(0, .int p1), (1, .int p2), (2, .int p3)] := hl
  obtain ⟨H, hHe⟩ : ∃ H : Heap, H = s.heap := ⟨_, rfl⟩
  obtain ⟨locs, hLe⟩ : ∃ locs : List Loc, locs = [] := ⟨_, rfl⟩
  have hP : va_P E.1 vwCl ([] : va_W) H := by rw [hHe]; exact hP
  have hS : va_S A s.heap H locs := by rw [hHe, hLe]; exact hS
  rw [← hLe, show W p l e rm_X9_in s m ([.int p1, .int p2, .int p3] : List Value).toArray below meth c s.heap locs 0 0 = W p l e rm_X9_in s m ([.int p1, .int p2, .int p3] : List Value).toArray below meth c H locs 0 0 from by rw [hHe]]
  refine lv_iload_n hx hb dX9_in_0 rfl (lv_at hl 0 rfl) ?_
  refine lv_iload_n hx hb dX9_in_1 rfl (lv_at hl 1 rfl) ?_
  refine lv_icmp_lt (tgt := 14) hx hb dX9_in_2 (by decide) (fun c1 => ?_) (fun c1 => ?_)
  · have hf := (if_pos c1).symm.trans hf
    refine lv_iconst (v := 0) hx hb dX9_in_14 (by decide) ?_
    have ho := Option.some.inj hf
    exact r_zret X hr hP hS rfl ho rfl dX9_in_15
  · have hf := (if_neg c1).symm.trans hf
    refine lv_iload_n hx hb dX9_in_5 rfl (lv_at hl 0 rfl) ?_
    refine lv_iload_n hx hb dX9_in_6 rfl (lv_at hl 2 rfl) ?_
    refine lv_icmp_gt (tgt := 14) hx hb dX9_in_7 (by decide) (fun c2 => ?_) (fun c2 => ?_)
    · have hf := (if_pos c2).symm.trans hf
      refine lv_iconst (v := 0) hx hb dX9_in_14 (by decide) ?_
      have ho := Option.some.inj hf
      exact r_zret X hr hP hS rfl ho rfl dX9_in_15
    · have hf := (if_neg c2).symm.trans hf
      refine lv_iconst (v := 1) hx hb dX9_in_10 (by decide) ?_
      refine lv_goto (tgt := 15) hx hb dX9_in_11 (by decide) ?_
      have ho := Option.some.inj hf
      exact r_zret X hr hP hS rfl ho rfl dX9_in_15
def rm_X9_isCell : Room := { frames := 1, cells := 0, slots := 0, locals := 22 }
theorem pv_X9_isCell : PkV RX9 yX9_isCell cX9_isCell 2 (some .boolean) 1 := ⟨im_X9_isCell, se_X9_isCell, ini_X9, cd_X9_isCell, by decide +kernel⟩
set_option maxHeartbeats 4000000 in
set_option maxRecDepth 100000 in
theorem c_X9_isCell (l : Launch) (E : Ev) (a : Nat → Nat) (σ : Sg) (tr : Int64) (p1 : Int32) {out : Int32} (hf : f_X9_isCell σ tr p1 = some out) : MtI l yX9_isCell (wl yX9_isCell cX9_isCell 2 (some .boolean)) rm_X9_isCell E [.ref (a 0), .int p1] (wX9 E a σ tr) out (wX9 E a σ tr) := by
  refine mt_of (QQ := (fun A => va_Qi (fun x (_ : Unit) => x = out) (fun _ t => QW E (wX9 E a σ tr) t) A)) (by decide) (Nat.le_of_ble_eq_true rfl) (fun p e s m below meth c A ls X hr hP hD hS hl => ?_)
  have hx := X.1.1
  have hb := X.1.2.1
  have hl : lv_has ls 2 [(0, .ref (a 0)), (1, .int p1)] := hl
  obtain ⟨H, hHe⟩ : ∃ H : Heap, H = s.heap := ⟨_, rfl⟩
  obtain ⟨locs, hLe⟩ : ∃ locs : List Loc, locs = [] := ⟨_, rfl⟩
  have hP : va_P E.1 vwCl (wX9 E a σ tr) H := by rw [hHe]; exact hP
  have hS : va_S A s.heap H locs := by rw [hHe, hLe]; exact hS
  rw [← hLe, show W p l e rm_X9_isCell s m ([.ref (a 0), .int p1] : List Value).toArray below meth c s.heap locs 0 0 = W p l e rm_X9_isCell s m ([.ref (a 0), .int p1] : List Value).toArray below meth c H locs 0 0 from by rw [hHe]]
  refine lv_iload_n hx hb dX9_isCell_0 rfl (lv_at hl 1 rfl) ?_
  refine lv_iconst (v := 0) hx hb dX9_isCell_1 (by decide) ?_
  refine lv_aload_n hx hb dX9_isCell_2 rfl (lv_at hl 0 rfl) ?_
  obtain ⟨z1, hz1, hf⟩ := obd hf
  refine cV_allI X (As := []) (rest := [.int 0, .int p1]) (c_X9_cells l E a σ tr hz1) pv_X9_cells ml_X9_51 ⟨rfl, rfl⟩ ⟨(Nat.le_of_ble_eq_true rfl), (Nat.le_of_ble_eq_true rfl)⟩ hP hD hS (wX9_g0_0 _ _ _ _) rfl (wX9_adr _ _ _ _ _ _) rfl hl.1 rfl (Nat.le_of_ble_eq_true rfl) dX9_isCell_3 ⟨Nat.le_refl _, Nat.le_refl _⟩ (fun H locs hP hD hS => ?_)
  refine lv_iconst (v := 1) hx hb dX9_isCell_6 (by decide) ?_
  refine lv_isub hx hb dX9_isCell_7 ?_
  obtain ⟨z2, hz2, hf⟩ := obd hf
  refine cS_roI X (As := [.int p1, .int 0, .int (z1 - 1)]) (rest := []) (c_X9_in l E p1 0 (z1 - 1) hz2) ps_X9_in ml_X9_55 ⟨rfl, rfl⟩ ⟨(Nat.le_of_ble_eq_true rfl), (Nat.le_of_ble_eq_true rfl)⟩ hP hD hS (is := []) (wc := []) rfl rfl rfl hl.1 rfl (Nat.le_of_ble_eq_true rfl) dX9_isCell_8 ⟨Nat.le_refl _, Nat.le_refl _⟩ (fun H locs hP hS => ?_)
  obtain ⟨⟨h3, -⟩, hf⟩ := cbl_in hf
  have ho := Option.some.inj hf
  exact r_zret X hr hP hS h3 ho rfl dX9_isCell_11
def rm_X9_areTwo : Room := { frames := 2, cells := 0, slots := 0, locals := 43 }
theorem pv_X9_areTwo : PkV RX9 yX9_areTwo cX9_areTwo 3 (some .boolean) 2 := ⟨im_X9_areTwo, se_X9_areTwo, ini_X9, cd_X9_areTwo, by decide +kernel⟩
set_option maxHeartbeats 4000000 in
set_option maxRecDepth 100000 in
theorem c_X9_areTwo (l : Launch) (E : Ev) (a : Nat → Nat) (σ : Sg) (tr : Int64) (p1 : Int32) (p2 : Int32) {out : Int32} (hf : f_X9_areTwo σ tr p1 p2 = some out) : MtI l yX9_areTwo (wl yX9_areTwo cX9_areTwo 3 (some .boolean)) rm_X9_areTwo E [.ref (a 0), .int p1, .int p2] (wX9 E a σ tr) out (wX9 E a σ tr) := by
  refine mt_of (QQ := (fun A => va_Qi (fun x (_ : Unit) => x = out) (fun _ t => QW E (wX9 E a σ tr) t) A)) (by decide) (Nat.le_of_ble_eq_true rfl) (fun p e s m below meth c A ls X hr hP hD hS hl => ?_)
  have hx := X.1.1
  have hb := X.1.2.1
  have hl : lv_has ls 3 [(0, .ref (a 0)), (1, .int p1), (2, .int p2)] := hl
  obtain ⟨H, hHe⟩ : ∃ H : Heap, H = s.heap := ⟨_, rfl⟩
  obtain ⟨locs, hLe⟩ : ∃ locs : List Loc, locs = [] := ⟨_, rfl⟩
  have hP : va_P E.1 vwCl (wX9 E a σ tr) H := by rw [hHe]; exact hP
  have hS : va_S A s.heap H locs := by rw [hHe, hLe]; exact hS
  rw [← hLe, show W p l e rm_X9_areTwo s m ([.ref (a 0), .int p1, .int p2] : List Value).toArray below meth c s.heap locs 0 0 = W p l e rm_X9_areTwo s m ([.ref (a 0), .int p1, .int p2] : List Value).toArray below meth c H locs 0 0 from by rw [hHe]]
  refine lv_aload_n hx hb dX9_areTwo_0 rfl (lv_at hl 0 rfl) ?_
  refine lv_iload_n hx hb dX9_areTwo_1 rfl (lv_at hl 1 rfl) ?_
  obtain ⟨z1, hz1, hf⟩ := obd hf
  refine cV_allI X (As := [.int p1]) (rest := []) (c_X9_isCell l E a σ tr p1 hz1) pv_X9_isCell ml_X9_59 ⟨rfl, rfl⟩ ⟨(Nat.le_of_ble_eq_true rfl), (Nat.le_of_ble_eq_true rfl)⟩ hP hD hS (wX9_g0_0 _ _ _ _) rfl (wX9_adr _ _ _ _ _ _) rfl hl.1 rfl (Nat.le_of_ble_eq_true rfl) dX9_areTwo_2 ⟨Nat.le_refl _, Nat.le_refl _⟩ (fun H locs hP hD hS => ?_)
  refine lv_if_eq (tgt := 25) hx hb dX9_areTwo_5 (by decide) (fun c2 => ?_) (fun c2 => ?_)
  · have hf := (if_pos c2).symm.trans hf
    refine lv_iconst (v := 0) hx hb dX9_areTwo_25 (by decide) ?_
    have ho := Option.some.inj hf
    exact r_zret X hr hP hS rfl ho rfl dX9_areTwo_26
  · have hf := (if_neg c2).symm.trans hf
    refine lv_aload_n hx hb dX9_areTwo_8 rfl (lv_at hl 0 rfl) ?_
    refine lv_iload_n hx hb dX9_areTwo_9 rfl (lv_at hl 2 rfl) ?_
    obtain ⟨z3, hz3, hf⟩ := obd hf
    refine cV_allI X (As := [.int p2]) (rest := []) (c_X9_isCell l E a σ tr p2 hz3) pv_X9_isCell ml_X9_59 ⟨rfl, rfl⟩ ⟨(Nat.le_of_ble_eq_true rfl), (Nat.le_of_ble_eq_true rfl)⟩ hP hD hS (wX9_g0_0 _ _ _ _) rfl (wX9_adr _ _ _ _ _ _) rfl hl.1 rfl (Nat.le_of_ble_eq_true rfl) dX9_areTwo_10 ⟨Nat.le_refl _, Nat.le_refl _⟩ (fun H locs hP hD hS => ?_)
    refine lv_if_eq (tgt := 25) hx hb dX9_areTwo_13 (by decide) (fun c4 => ?_) (fun c4 => ?_)
    · have hf := (if_pos c4).symm.trans hf
      refine lv_iconst (v := 0) hx hb dX9_areTwo_25 (by decide) ?_
      have ho := Option.some.inj hf
      exact r_zret X hr hP hS rfl ho rfl dX9_areTwo_26
    · have hf := (if_neg c4).symm.trans hf
      refine lv_iload_n hx hb dX9_areTwo_16 rfl (lv_at hl 1 rfl) ?_
      refine lv_iload_n hx hb dX9_areTwo_17 rfl (lv_at hl 2 rfl) ?_
      refine lv_icmp_eq (tgt := 25) hx hb dX9_areTwo_18 (by decide) (fun c5 => ?_) (fun c5 => ?_)
      · have hf := (if_pos c5).symm.trans hf
        refine lv_iconst (v := 0) hx hb dX9_areTwo_25 (by decide) ?_
        have ho := Option.some.inj hf
        exact r_zret X hr hP hS rfl ho rfl dX9_areTwo_26
      · have hf := (if_neg c5).symm.trans hf
        refine lv_iconst (v := 1) hx hb dX9_areTwo_21 (by decide) ?_
        refine lv_goto (tgt := 26) hx hb dX9_areTwo_22 (by decide) ?_
        have ho := Option.some.inj hf
        exact r_zret X hr hP hS rfl ho rfl dX9_areTwo_26
def rm_X9_falls : Room := { frames := 0, cells := 0, slots := 0, locals := 0 }
theorem pv_X9_falls : PkV RX9 yX9_falls cX9_falls 3 none 1 := ⟨im_X9_falls, se_X9_falls, ini_X9, cd_X9_falls, by decide +kernel⟩
set_option maxHeartbeats 4000000 in
set_option maxRecDepth 100000 in
theorem c_X9_falls (l : Launch) (E : Ev) (a : Nat → Nat) (σ : Sg) (tr : Int64) (p1 : Int32) {out : Sg} (hf : f_X9_falls σ tr p1 = some out) : MtV l yX9_falls (wl yX9_falls cX9_falls 3 none) rm_X9_falls E [.ref (a 0), .int p1] (wX9 E a σ tr) (wX9 E a out tr) := by
  refine mt_of (QQ := (fun A => va_Qv (fun _ : Unit => True) (fun _ t => QW E (wX9 E a out tr) t) A)) (by decide) (Nat.le_of_ble_eq_true rfl) (fun p e s m below meth c A ls X hr hP hD hS hl => ?_)
  have hx := X.1.1
  have hb := X.1.2.1
  have hl : lv_has ls 3 [(0, .ref (a 0)), (1, .int p1)] := hl
  obtain ⟨H, hHe⟩ : ∃ H : Heap, H = s.heap := ⟨_, rfl⟩
  obtain ⟨locs, hLe⟩ : ∃ locs : List Loc, locs = [] := ⟨_, rfl⟩
  have hP : va_P E.1 vwCl (wX9 E a σ tr) H := by rw [hHe]; exact hP
  have hS : va_S A s.heap H locs := by rw [hHe, hLe]; exact hS
  rw [← hLe, show W p l e rm_X9_falls s m ([.ref (a 0), .int p1] : List Value).toArray below meth c s.heap locs 0 0 = W p l e rm_X9_falls s m ([.ref (a 0), .int p1] : List Value).toArray below meth c H locs 0 0 from by rw [hHe]]
  refine lv_iconst (v := 0) hx hb dX9_falls_0 (by decide) ?_
  refine lv_istore_n (lv' := [(2, .int 0), (0, .ref (a 0)), (1, .int p1)]) hx hb dX9_falls_1 rfl hl (by decide) rfl (fun ls hl => ?_)
  have J1 : ∀ (g1 : Sg), j_X9_falls_1 p1 g1 = some out → ∀ (H : Heap) (locs : List Loc) (ls : Array Slot), va_P E.1 vwCl (wX9 E a g1 tr) H → va_D A (wX9 E a g1 tr) → va_S A s.heap H locs → lv_has ls 3 [(0, .ref (a 0)), (1, .int p1)] → W p l e rm_X9_falls s m ([.ref (a 0), .int p1] : List Value).toArray below meth c H locs 0 0 (MQ below (va_Qv (fun _ : Unit => True) (fun _ t => QW E (wX9 E a out tr) t) A) ([.ref (a 0), .int p1] : List Value).toArray s 0 0 A) (F0 m 31 ls []) := by
    intro g1 hf H locs ls hP hD hS hl
    refine lv_aload_n hx hb dX9_falls_31 rfl (lv_at hl 0 rfl) ?_
    refine r_get X hP 0 (wX9_g0_0 _ _ _ _) rfl inc_X9 16 (by decide) fl_X9_38 rfl dX9_falls_32 ?_
    refine lv_iconst (v := 0) hx hb dX9_falls_35 (by decide) ?_
    refine lv_aload_n hx hb dX9_falls_36 rfl (lv_at hl 0 rfl) ?_
    refine r_get X hP 0 (wX9_g0_0 _ _ _ _) rfl inc_X9 16 (by decide) fl_X9_38 rfl dX9_falls_37 ?_
    refine lv_iconst (v := 2) hx hb dX9_falls_40 (by decide) ?_
    refine lv_iload_n hx hb dX9_falls_41 rfl (lv_at hl 1 rfl) ?_
    refine lv_imul hx hb dX9_falls_42 ?_
    obtain ⟨h2, hf⟩ := chk_in hf
    refine r_iald X hP 10 (wX9_g0_10 _ _ _ _) h2 dX9_falls_43 ?_
    obtain ⟨h3, hf⟩ := chk_in hf
    refine r_iast X hP hD hS 10 (wX9_g0_10 _ _ _ _) h3 (wX9_t0_10 _ _ _ _ _ _) dX9_falls_44 (fun H locs hP hD hS => ?_)
    refine lv_aload_n hx hb dX9_falls_45 rfl (lv_at hl 0 rfl) ?_
    refine r_get X hP 0 (wX9_g0_0 _ _ _ _) rfl inc_X9 16 (by decide) fl_X9_38 rfl dX9_falls_46 ?_
    refine lv_iconst (v := 1) hx hb dX9_falls_49 (by decide) ?_
    refine lv_aload_n hx hb dX9_falls_50 rfl (lv_at hl 0 rfl) ?_
    refine r_get X hP 0 (wX9_g0_0 _ _ _ _) rfl inc_X9 16 (by decide) fl_X9_38 rfl dX9_falls_51 ?_
    refine lv_iconst (v := 2) hx hb dX9_falls_54 (by decide) ?_
    refine lv_iload_n hx hb dX9_falls_55 rfl (lv_at hl 1 rfl) ?_
    refine lv_imul hx hb dX9_falls_56 ?_
    refine lv_iconst (v := 1) hx hb dX9_falls_57 (by decide) ?_
    refine lv_iadd hx hb dX9_falls_58 ?_
    obtain ⟨h4, hf⟩ := chk_in hf
    refine r_iald X hP 10 (wX9_g0_10 _ _ _ _) h4 dX9_falls_59 ?_
    obtain ⟨h5, hf⟩ := chk_in hf
    refine r_iast X hP hD hS 10 (wX9_g0_10 _ _ _ _) h5 (wX9_t0_10 _ _ _ _ _ _) dX9_falls_60 (fun H locs hP hD hS => ?_)
    have ho := Option.some.inj hf
    have hw := congrArg (fun o : Sg => (wX9 E a o tr)) ho
    exact r_vret X hr hP hS hw dX9_falls_61
  have L9 := lc2_ind (o := out) (step := (s_X9_falls_2 p1 (j_X9_falls_1 p1))) (fun x6 g7 => ∀ (H : Heap) (locs : List Loc) (ls : Array Slot), va_P E.1 vwCl (wX9 E a g7 tr) H → va_D A (wX9 E a g7 tr) → va_S A s.heap H locs → lv_has ls 3 [(0, .ref (a 0)), (1, .int p1), (2, .int x6)] → W p l e rm_X9_falls s m ([.ref (a 0), .int p1] : List Value).toArray below meth c H locs 0 0 (MQ below (va_Qv (fun _ : Unit => True) (fun _ t => QW E (wX9 E a out tr) t) A) ([.ref (a 0), .int p1] : List Value).toArray s 0 0 A) (F0 m 2 ls [])) (fun x6 g7 k8 ih9 hf H locs ls hP hD hS hl => by
    refine lv_iload_n hx hb dX9_falls_2 rfl (lv_at hl 2 rfl) ?_
    refine lv_bipush (v := 64) hx hb dX9_falls_3 (by decide) ?_
    refine lv_icmp_ge (tgt := 31) hx hb dX9_falls_5 (by decide) (fun c10 => ?_) (fun c10 => ?_)
    · have hf := (if_pos c10).symm.trans hf
      exact J1 g7 hf H locs ls hP hD hS (lv_sub hl [0, 1] rfl)
    · have hf := (if_neg c10).symm.trans hf
      refine lv_aload_n hx hb dX9_falls_8 rfl (lv_at hl 0 rfl) ?_
      refine r_get X hP 0 (wX9_g0_0 _ _ _ _) rfl inc_X9 15 (by decide) fl_X9_35 rfl dX9_falls_9 ?_
      refine lv_iload_n hx hb dX9_falls_12 rfl (lv_at hl 2 rfl) ?_
      refine lv_aload_n hx hb dX9_falls_13 rfl (lv_at hl 0 rfl) ?_
      refine r_get X hP 0 (wX9_g0_0 _ _ _ _) rfl inc_X9 15 (by decide) fl_X9_35 rfl dX9_falls_14 ?_
      refine lv_bipush (v := 64) hx hb dX9_falls_17 (by decide) ?_
      refine lv_iload_n hx hb dX9_falls_19 rfl (lv_at hl 1 rfl) ?_
      refine lv_imul hx hb dX9_falls_20 ?_
      refine lv_iload_n hx hb dX9_falls_21 rfl (lv_at hl 2 rfl) ?_
      refine lv_iadd hx hb dX9_falls_22 ?_
      obtain ⟨h11, hf⟩ := chk_in hf
      refine r_iald X hP 9 (wX9_g0_9 _ _ _ _) h11 dX9_falls_23 ?_
      obtain ⟨h12, hf⟩ := chk_in hf
      refine r_iast X hP hD hS 9 (wX9_g0_9 _ _ _ _) h12 (wX9_t0_9 _ _ _ _ _ _) dX9_falls_24 (fun H locs hP hD hS => ?_)
      refine lv_iinc (v := (x6 + 1)) (lv' := [(2, .int (x6 + 1)), (0, .ref (a 0)), (1, .int p1)]) hx hb dX9_falls_25 hl (k := 2) rfl rfl (by decide) rfl (fun ls hl => ?_)
      refine lv_goto (tgt := 2) hx hb dX9_falls_28 (by decide) ?_
      exact ih9 (x6 + 1) (sg_st g7 9 (x6 : Int32).toNatClampNeg (g7 9 (((64 * p1) + x6) : Int32).toNatClampNeg)) hf H locs ls hP hD hS (lv_sub hl [1, 2, 0] rfl))
  exact L9 1000 0 σ hf H locs ls hP hD hS (lv_sub hl [1, 2, 0] rfl)
def rm_X9_flat : Room := { frames := 1, cells := 0, slots := 0, locals := 20 }
theorem pv_X9_flat : PkV RX9 yX9_flat cX9_flat 2 none 0 := ⟨im_X9_flat, se_X9_flat, ini_X9, cd_X9_flat, by decide +kernel⟩
set_option maxHeartbeats 4000000 in
set_option maxRecDepth 100000 in
theorem c_X9_flat (l : Launch) (E : Ev) (a : Nat → Nat) (σ : Sg) (tr : Int64) {out : Sg} (hf : f_X9_flat σ tr = some out) : MtV l yX9_flat (wl yX9_flat cX9_flat 2 none) rm_X9_flat E [.ref (a 0)] (wX9 E a σ tr) (wX9 E a out tr) := by
  refine mt_of (QQ := (fun A => va_Qv (fun _ : Unit => True) (fun _ t => QW E (wX9 E a out tr) t) A)) (by decide) (Nat.le_of_ble_eq_true rfl) (fun p e s m below meth c A ls X hr hP hD hS hl => ?_)
  have hx := X.1.1
  have hb := X.1.2.1
  have hl : lv_has ls 2 [(0, .ref (a 0))] := hl
  obtain ⟨H, hHe⟩ : ∃ H : Heap, H = s.heap := ⟨_, rfl⟩
  obtain ⟨locs, hLe⟩ : ∃ locs : List Loc, locs = [] := ⟨_, rfl⟩
  have hP : va_P E.1 vwCl (wX9 E a σ tr) H := by rw [hHe]; exact hP
  have hS : va_S A s.heap H locs := by rw [hHe, hLe]; exact hS
  rw [← hLe, show W p l e rm_X9_flat s m ([.ref (a 0)] : List Value).toArray below meth c s.heap locs 0 0 = W p l e rm_X9_flat s m ([.ref (a 0)] : List Value).toArray below meth c H locs 0 0 from by rw [hHe]]
  refine lv_iconst (v := 0) hx hb dX9_flat_0 (by decide) ?_
  refine lv_istore_n (lv' := [(1, .int 0), (0, .ref (a 0))]) hx hb dX9_flat_1 rfl hl (by decide) rfl (fun ls hl => ?_)
  have J1 : ∀ (g1 : Sg), j_X9_flat_1 g1 = some out → ∀ (H : Heap) (locs : List Loc) (ls : Array Slot), va_P E.1 vwCl (wX9 E a g1 tr) H → va_D A (wX9 E a g1 tr) → va_S A s.heap H locs → lv_has ls 2 [(0, .ref (a 0))] → W p l e rm_X9_flat s m ([.ref (a 0)] : List Value).toArray below meth c H locs 0 0 (MQ below (va_Qv (fun _ : Unit => True) (fun _ t => QW E (wX9 E a out tr) t) A) ([.ref (a 0)] : List Value).toArray s 0 0 A) (F0 m 67 ls []) := by
    intro g1 hf H locs ls hP hD hS hl
    refine lv_aload_n hx hb dX9_flat_67 rfl (lv_at hl 0 rfl) ?_
    refine r_get X hP 0 (wX9_g0_0 _ _ _ _) rfl inc_X9 16 (by decide) fl_X9_38 rfl dX9_flat_68 ?_
    refine lv_iconst (v := 0) hx hb dX9_flat_71 (by decide) ?_
    refine lv_aload_n hx hb dX9_flat_72 rfl (lv_at hl 0 rfl) ?_
    refine r_get X hP 0 (wX9_g0_0 _ _ _ _) rfl inc_X9 3 (by decide) fl_X9_13 rfl dX9_flat_73 ?_
    refine lv_iconst (v := 0) hx hb dX9_flat_76 (by decide) ?_
    obtain ⟨h2, hf⟩ := chk_in hf
    refine r_iald X hP 2 (wX9_g0_2 _ _ _ _) h2 dX9_flat_77 ?_
    obtain ⟨h3, hf⟩ := chk_in hf
    refine r_iast X hP hD hS 10 (wX9_g0_10 _ _ _ _) h3 (wX9_t0_10 _ _ _ _ _ _) dX9_flat_78 (fun H locs hP hD hS => ?_)
    refine lv_aload_n hx hb dX9_flat_79 rfl (lv_at hl 0 rfl) ?_
    refine r_get X hP 0 (wX9_g0_0 _ _ _ _) rfl inc_X9 16 (by decide) fl_X9_38 rfl dX9_flat_80 ?_
    refine lv_iconst (v := 1) hx hb dX9_flat_83 (by decide) ?_
    refine lv_aload_n hx hb dX9_flat_84 rfl (lv_at hl 0 rfl) ?_
    refine r_get X hP 0 (wX9_g0_0 _ _ _ _) rfl inc_X9 3 (by decide) fl_X9_13 rfl dX9_flat_85 ?_
    refine lv_iconst (v := 1) hx hb dX9_flat_88 (by decide) ?_
    obtain ⟨h4, hf⟩ := chk_in hf
    refine r_iald X hP 2 (wX9_g0_2 _ _ _ _) h4 dX9_flat_89 ?_
    obtain ⟨h5, hf⟩ := chk_in hf
    refine r_iast X hP hD hS 10 (wX9_g0_10 _ _ _ _) h5 (wX9_t0_10 _ _ _ _ _ _) dX9_flat_90 (fun H locs hP hD hS => ?_)
    have ho := Option.some.inj hf
    have hw := congrArg (fun o : Sg => (wX9 E a o tr)) ho
    exact r_vret X hr hP hS hw dX9_flat_91
  have L9 := lc2_ind (o := out) (step := (s_X9_flat_2 tr j_X9_flat_1)) (fun x6 g7 => ∀ (H : Heap) (locs : List Loc) (ls : Array Slot), va_P E.1 vwCl (wX9 E a g7 tr) H → va_D A (wX9 E a g7 tr) → va_S A s.heap H locs → lv_has ls 2 [(0, .ref (a 0)), (1, .int x6)] → W p l e rm_X9_flat s m ([.ref (a 0)] : List Value).toArray below meth c H locs 0 0 (MQ below (va_Qv (fun _ : Unit => True) (fun _ t => QW E (wX9 E a out tr) t) A) ([.ref (a 0)] : List Value).toArray s 0 0 A) (F0 m 2 ls [])) (fun x6 g7 k8 ih9 hf H locs ls hP hD hS hl => by
    refine lv_iload_n hx hb dX9_flat_2 rfl (lv_at hl 1 rfl) ?_
    refine lv_aload_n hx hb dX9_flat_3 rfl (lv_at hl 0 rfl) ?_
    obtain ⟨z10, hz10, hf⟩ := obd hf
    refine cV_allI X (As := []) (rest := [.int x6]) (c_X9_cells l E a g7 tr hz10) pv_X9_cells ml_X9_51 ⟨rfl, rfl⟩ ⟨(Nat.le_of_ble_eq_true rfl), (Nat.le_of_ble_eq_true rfl)⟩ hP hD hS (wX9_g0_0 _ _ _ _) rfl (wX9_adr _ _ _ _ _ _) rfl hl.1 rfl (Nat.le_of_ble_eq_true rfl) dX9_flat_4 ⟨Nat.le_refl _, Nat.le_refl _⟩ (fun H locs hP hD hS => ?_)
    refine lv_icmp_ge (tgt := 67) hx hb dX9_flat_7 (by decide) (fun c11 => ?_) (fun c11 => ?_)
    · have hf := (if_pos c11).symm.trans hf
      exact J1 g7 hf H locs ls hP hD hS (lv_sub hl [0] rfl)
    · have hf := (if_neg c11).symm.trans hf
      refine lv_aload_n hx hb dX9_flat_10 rfl (lv_at hl 0 rfl) ?_
      refine r_get X hP 0 (wX9_g0_0 _ _ _ _) rfl inc_X9 15 (by decide) fl_X9_35 rfl dX9_flat_11 ?_
      refine lv_iload_n hx hb dX9_flat_14 rfl (lv_at hl 1 rfl) ?_
      refine lv_iload_n hx hb dX9_flat_15 rfl (lv_at hl 1 rfl) ?_
      refine lv_aload_n hx hb dX9_flat_16 rfl (lv_at hl 0 rfl) ?_
      refine r_get X hP 0 (wX9_g0_0 _ _ _ _) rfl inc_X9 3 (by decide) fl_X9_13 rfl dX9_flat_17 ?_
      refine lv_iconst (v := 0) hx hb dX9_flat_20 (by decide) ?_
      obtain ⟨h12, hf⟩ := chk_in hf
      refine r_iald X hP 2 (wX9_g0_2 _ _ _ _) h12 dX9_flat_21 ?_
      obtain ⟨h13, hf⟩ := cnz_in hf
      refine lv_irem hx hb dX9_flat_22 h13 ?_
      obtain ⟨h14, hf⟩ := chk_in hf
      refine r_iast X hP hD hS 9 (wX9_g0_9 _ _ _ _) h14 (wX9_t0_9 _ _ _ _ _ _) dX9_flat_23 (fun H locs hP hD hS => ?_)
      refine lv_aload_n hx hb dX9_flat_24 rfl (lv_at hl 0 rfl) ?_
      refine r_get X hP 0 (wX9_g0_0 _ _ _ _) rfl inc_X9 15 (by decide) fl_X9_35 rfl dX9_flat_25 ?_
      refine lv_bipush (v := 16) hx hb dX9_flat_28 (by decide) ?_
      refine lv_iload_n hx hb dX9_flat_30 rfl (lv_at hl 1 rfl) ?_
      refine lv_iadd hx hb dX9_flat_31 ?_
      refine lv_iload_n hx hb dX9_flat_32 rfl (lv_at hl 1 rfl) ?_
      refine lv_aload_n hx hb dX9_flat_33 rfl (lv_at hl 0 rfl) ?_
      refine r_get X hP 0 (wX9_g0_0 _ _ _ _) rfl inc_X9 3 (by decide) fl_X9_13 rfl dX9_flat_34 ?_
      refine lv_iconst (v := 0) hx hb dX9_flat_37 (by decide) ?_
      obtain ⟨h15, hf⟩ := chk_in hf
      refine r_iald X hP 2 (wX9_g0_2 _ _ _ _) h15 dX9_flat_38 ?_
      obtain ⟨h16, hf⟩ := cnz_in hf
      refine lv_idiv hx hb dX9_flat_39 h16 ?_
      obtain ⟨h17, hf⟩ := chk_in hf
      refine r_iast X hP hD hS 9 (wX9_g0_9 _ _ _ _) h17 (wX9_t0_9 _ _ _ _ _ _) dX9_flat_40 (fun H locs hP hD hS => ?_)
      refine lv_aload_n hx hb dX9_flat_41 rfl (lv_at hl 0 rfl) ?_
      refine r_get X hP 0 (wX9_g0_0 _ _ _ _) rfl inc_X9 15 (by decide) fl_X9_35 rfl dX9_flat_42 ?_
      refine lv_bipush (v := 32) hx hb dX9_flat_45 (by decide) ?_
      refine lv_iload_n hx hb dX9_flat_47 rfl (lv_at hl 1 rfl) ?_
      refine lv_iadd hx hb dX9_flat_48 ?_
      refine lv_iconst (v := 0) hx hb dX9_flat_49 (by decide) ?_
      obtain ⟨h18, hf⟩ := chk_in hf
      refine r_iast X hP hD hS 9 (wX9_g0_9 _ _ _ _) h18 (wX9_t0_9 _ _ _ _ _ _) dX9_flat_50 (fun H locs hP hD hS => ?_)
      refine lv_aload_n hx hb dX9_flat_51 rfl (lv_at hl 0 rfl) ?_
      refine r_get X hP 0 (wX9_g0_0 _ _ _ _) rfl inc_X9 15 (by decide) fl_X9_35 rfl dX9_flat_52 ?_
      refine lv_bipush (v := 48) hx hb dX9_flat_55 (by decide) ?_
      refine lv_iload_n hx hb dX9_flat_57 rfl (lv_at hl 1 rfl) ?_
      refine lv_iadd hx hb dX9_flat_58 ?_
      refine lv_iconst (v := 1) hx hb dX9_flat_59 (by decide) ?_
      obtain ⟨h19, hf⟩ := chk_in hf
      refine r_iast X hP hD hS 9 (wX9_g0_9 _ _ _ _) h19 (wX9_t0_9 _ _ _ _ _ _) dX9_flat_60 (fun H locs hP hD hS => ?_)
      refine lv_iinc (v := (x6 + 1)) (lv' := [(1, .int (x6 + 1)), (0, .ref (a 0))]) hx hb dX9_flat_61 hl (k := 1) rfl rfl (by decide) rfl (fun ls hl => ?_)
      refine lv_goto (tgt := 2) hx hb dX9_flat_64 (by decide) ?_
      exact ih9 (x6 + 1) (sg_st (sg_st (sg_st (sg_st g7 9 (x6 : Int32).toNatClampNeg (x6 - x6 / (g7 2 (0 : Int32).toNatClampNeg) * (g7 2 (0 : Int32).toNatClampNeg))) 9 ((16 + x6) : Int32).toNatClampNeg (x6 / ((sg_st g7 9 (x6 : Int32).toNatClampNeg (x6 - x6 / (g7 2 (0 : Int32).toNatClampNeg) * (g7 2 (0 : Int32).toNatClampNeg))) 2 (0 : Int32).toNatClampNeg))) 9 ((32 + x6) : Int32).toNatClampNeg 0) 9 ((48 + x6) : Int32).toNatClampNeg 1) hf H locs ls hP hD hS (lv_sub hl [1, 0] rfl))
  exact L9 1000 0 σ hf H locs ls hP hD hS (lv_sub hl [1, 0] rfl)
def rm_X9_manyAt : Room := { frames := 1, cells := 0, slots := 0, locals := 20 }
theorem pv_X9_manyAt : PkV RX9 yX9_manyAt cX9_manyAt 8 (some .int) 4 := ⟨im_X9_manyAt, se_X9_manyAt, ini_X9, cd_X9_manyAt, by decide +kernel⟩
set_option maxHeartbeats 4000000 in
set_option maxRecDepth 100000 in
theorem c_X9_manyAt (l : Launch) (E : Ev) (a : Nat → Nat) (σ : Sg) (tr : Int64) (p1 : Int32) (p2 : Int32) (p3 : Int32) (p4 : Int32) {out : Int32} (hf : f_X9_manyAt σ tr p1 p2 p3 p4 = some out) : MtI l yX9_manyAt (wl yX9_manyAt cX9_manyAt 8 (some .int)) rm_X9_manyAt E [.ref (a 0), .int p1, .int p2, .int p3, .int p4] (wX9 E a σ tr) out (wX9 E a σ tr) := by
  refine mt_of (QQ := (fun A => va_Qi (fun x (_ : Unit) => x = out) (fun _ t => QW E (wX9 E a σ tr) t) A)) (by decide) (Nat.le_of_ble_eq_true rfl) (fun p e s m below meth c A ls X hr hP hD hS hl => ?_)
  have hx := X.1.1
  have hb := X.1.2.1
  have hl : lv_has ls 8 [(0, .ref (a 0)), (1, .int p1), (2, .int p2), (3, .int p3), (4, .int p4)] := hl
  obtain ⟨H, hHe⟩ : ∃ H : Heap, H = s.heap := ⟨_, rfl⟩
  obtain ⟨locs, hLe⟩ : ∃ locs : List Loc, locs = [] := ⟨_, rfl⟩
  have hP : va_P E.1 vwCl (wX9 E a σ tr) H := by rw [hHe]; exact hP
  have hS : va_S A s.heap H locs := by rw [hHe, hLe]; exact hS
  rw [← hLe, show W p l e rm_X9_manyAt s m ([.ref (a 0), .int p1, .int p2, .int p3, .int p4] : List Value).toArray below meth c s.heap locs 0 0 = W p l e rm_X9_manyAt s m ([.ref (a 0), .int p1, .int p2, .int p3, .int p4] : List Value).toArray below meth c H locs 0 0 from by rw [hHe]]
  refine lv_iload_n hx hb dX9_manyAt_0 rfl (lv_at hl 1 rfl) ?_
  refine lv_iload_n hx hb dX9_manyAt_1 rfl (lv_at hl 2 rfl) ?_
  have J1 : ∀ (x1 : Int32), j_X9_manyAt_1 σ tr p1 p3 p4 x1 = some out → ∀ (H : Heap) (locs : List Loc) (ls : Array Slot), va_P E.1 vwCl (wX9 E a σ tr) H → va_D A (wX9 E a σ tr) → va_S A s.heap H locs → lv_has ls 8 [(0, .ref (a 0)), (3, .int p3), (4, .int p4)] → W p l e rm_X9_manyAt s m ([.ref (a 0), .int p1, .int p2, .int p3, .int p4] : List Value).toArray below meth c H locs 0 0 (MQ below (va_Qi (fun x (_ : Unit) => x = out) (fun _ t => QW E (wX9 E a σ tr) t) A) ([.ref (a 0), .int p1, .int p2, .int p3, .int p4] : List Value).toArray s 0 0 A) (F0 m 11 ls [.int x1, .int p1]) := by
    intro x1 hf H locs ls hP hD hS hl
    refine lv_iadd hx hb dX9_manyAt_11 ?_
    refine lv_istore (lv' := [(5, .int (p1 + x1)), (0, .ref (a 0)), (3, .int p3), (4, .int p4)]) hx hb dX9_manyAt_12 hl (by decide) rfl (fun ls hl => ?_)
    refine lv_iconst (v := 0) hx hb dX9_manyAt_14 (by decide) ?_
    refine lv_istore (lv' := [(6, .int 0), (5, .int (p1 + x1)), (0, .ref (a 0)), (3, .int p3), (4, .int p4)]) hx hb dX9_manyAt_15 hl (by decide) rfl (fun ls hl => ?_)
    refine lv_iconst (v := 0) hx hb dX9_manyAt_17 (by decide) ?_
    refine lv_istore (lv' := [(7, .int 0), (6, .int 0), (5, .int (p1 + x1)), (0, .ref (a 0)), (3, .int p3), (4, .int p4)]) hx hb dX9_manyAt_18 hl (by decide) rfl (fun ls hl => ?_)
    have L4 := lc2_ind (o := out) (step := (s_X9_manyAt_20 σ tr p1 p3 p4 x1)) (fun x2 x3 => ∀ (H : Heap) (locs : List Loc) (ls : Array Slot), va_P E.1 vwCl (wX9 E a σ tr) H → va_D A (wX9 E a σ tr) → va_S A s.heap H locs → lv_has ls 8 [(0, .ref (a 0)), (3, .int p3), (4, .int p4), (5, .int (p1 + x1)), (6, .int x2), (7, .int x3)] → W p l e rm_X9_manyAt s m ([.ref (a 0), .int p1, .int p2, .int p3, .int p4] : List Value).toArray below meth c H locs 0 0 (MQ below (va_Qi (fun x (_ : Unit) => x = out) (fun _ t => QW E (wX9 E a σ tr) t) A) ([.ref (a 0), .int p1, .int p2, .int p3, .int p4] : List Value).toArray s 0 0 A) (F0 m 20 ls [])) (fun x2 x3 k4 ih4 hf H locs ls hP hD hS hl => by
      refine lv_iload hx hb dX9_manyAt_20 (lv_at hl 5 rfl) ?_
      refine lv_aload_n hx hb dX9_manyAt_22 rfl (lv_at hl 0 rfl) ?_
      obtain ⟨z5, hz5, hf⟩ := obd hf
      refine cV_allI X (As := []) (rest := [.int x3]) (c_X9_cells l E a σ tr hz5) pv_X9_cells ml_X9_51 ⟨rfl, rfl⟩ ⟨(Nat.le_of_ble_eq_true rfl), (Nat.le_of_ble_eq_true rfl)⟩ hP hD hS (wX9_g0_0 _ _ _ _) rfl (wX9_adr _ _ _ _ _ _) rfl hl.1 rfl (Nat.le_of_ble_eq_true rfl) dX9_manyAt_23 ⟨Nat.le_refl _, Nat.le_refl _⟩ (fun H locs hP hD hS => ?_)
      refine lv_icmp_ge (tgt := 95) hx hb dX9_manyAt_26 (by decide) (fun c6 => ?_) (fun c6 => ?_)
      · have hf := (if_pos c6).symm.trans hf
        refine lv_iload hx hb dX9_manyAt_95 (lv_at hl 4 rfl) ?_
        have ho := Option.some.inj hf
        exact r_iret X hr hP hS ho rfl dX9_manyAt_97
      · have hf := (if_neg c6).symm.trans hf
        refine lv_iload hx hb dX9_manyAt_29 (lv_at hl 4 rfl) ?_
        refine lv_aload_n hx hb dX9_manyAt_31 rfl (lv_at hl 0 rfl) ?_
        refine r_get X hP 0 (wX9_g0_0 _ _ _ _) rfl inc_X9 17 (by decide) fl_X9_41 rfl dX9_manyAt_32 ?_
        refine lv_iload hx hb dX9_manyAt_35 (lv_at hl 5 rfl) ?_
        obtain ⟨h7, hf⟩ := chk_in hf
        refine r_zald X hP 11 (wX9_g0_11 _ _ _ _) h7 dX9_manyAt_37 ?_
        refine lv_iload hx hb dX9_manyAt_38 (lv_at hl 2 rfl) ?_
        have J2 : ∀ (x8 : Int32), j_X9_manyAt_2 x2 x3 k4 x8 = some out → ∀ (H : Heap) (locs : List Loc) (ls : Array Slot), va_P E.1 vwCl (wX9 E a σ tr) H → va_D A (wX9 E a σ tr) → va_S A s.heap H locs → lv_has ls 8 [(0, .ref (a 0)), (3, .int p3), (4, .int p4), (5, .int (p1 + x1)), (7, .int x3)] → W p l e rm_X9_manyAt s m ([.ref (a 0), .int p1, .int p2, .int p3, .int p4] : List Value).toArray below meth c H locs 0 0 (MQ below (va_Qi (fun x (_ : Unit) => x = out) (fun _ t => QW E (wX9 E a σ tr) t) A) ([.ref (a 0), .int p1, .int p2, .int p3, .int p4] : List Value).toArray s 0 0 A) (F0 m 86 ls [.int x8, .int x2]) := by
          intro x8 hf H locs ls hP hD hS hl
          refine lv_iadd hx hb dX9_manyAt_86 ?_
          refine lv_istore (lv' := [(6, .int (x2 + x8)), (0, .ref (a 0)), (3, .int p3), (4, .int p4), (5, .int (p1 + x1)), (7, .int x3)]) hx hb dX9_manyAt_87 hl (by decide) rfl (fun ls hl => ?_)
          refine lv_iinc (v := (x3 + 1)) (lv' := [(7, .int (x3 + 1)), (6, .int (x2 + x8)), (0, .ref (a 0)), (3, .int p3), (4, .int p4), (5, .int (p1 + x1))]) hx hb dX9_manyAt_89 hl (k := 5) rfl rfl (by decide) rfl (fun ls hl => ?_)
          refine lv_goto (tgt := 20) hx hb dX9_manyAt_92 (by decide) ?_
          exact ih4 (x2 + x8) (x3 + 1) hf H locs ls hP hD hS (lv_sub hl [2, 3, 4, 5, 1, 0] rfl)
        refine lv_icmp_ne (tgt := 85) hx hb dX9_manyAt_40 (by decide) (fun c9 => ?_) (fun c9 => ?_)
        · have hf := (if_neg c9).symm.trans hf
          refine lv_iconst (v := 0) hx hb dX9_manyAt_85 (by decide) ?_
          exact J2 0 hf H locs ls hP hD hS (lv_sub hl [0, 1, 2, 3, 5] rfl)
        · have hf := (if_pos c9).symm.trans hf
          refine lv_aload_n hx hb dX9_manyAt_43 rfl (lv_at hl 0 rfl) ?_
          refine r_get X hP 0 (wX9_g0_0 _ _ _ _) rfl inc_X9 18 (by decide) fl_X9_44 rfl dX9_manyAt_44 ?_
          refine lv_iload hx hb dX9_manyAt_47 (lv_at hl 5 rfl) ?_
          obtain ⟨h10, hf⟩ := chk_in hf
          refine r_iald X hP 12 (wX9_g0_12 _ _ _ _) h10 dX9_manyAt_49 ?_
          refine lv_aload_n hx hb dX9_manyAt_50 rfl (lv_at hl 0 rfl) ?_
          refine r_get X hP 0 (wX9_g0_0 _ _ _ _) rfl inc_X9 18 (by decide) fl_X9_44 rfl dX9_manyAt_51 ?_
          refine lv_iload_n hx hb dX9_manyAt_54 rfl (lv_at hl 1 rfl) ?_
          obtain ⟨h11, hf⟩ := chk_in hf
          refine r_iald X hP 12 (wX9_g0_12 _ _ _ _) h11 dX9_manyAt_55 ?_
          refine lv_icmp_ne (tgt := 85) hx hb dX9_manyAt_56 (by decide) (fun c12 => ?_) (fun c12 => ?_)
          · have hf := (if_neg c12).symm.trans hf
            refine lv_iconst (v := 0) hx hb dX9_manyAt_85 (by decide) ?_
            exact J2 0 hf H locs ls hP hD hS (lv_sub hl [0, 1, 2, 3, 5] rfl)
          · have hf := (if_pos c12).symm.trans hf
            refine lv_aload_n hx hb dX9_manyAt_59 rfl (lv_at hl 0 rfl) ?_
            refine r_get X hP 0 (wX9_g0_0 _ _ _ _) rfl inc_X9 15 (by decide) fl_X9_35 rfl dX9_manyAt_60 ?_
            refine lv_iload hx hb dX9_manyAt_63 (lv_at hl 3 rfl) ?_
            refine lv_iload hx hb dX9_manyAt_65 (lv_at hl 5 rfl) ?_
            refine lv_iadd hx hb dX9_manyAt_67 ?_
            obtain ⟨h13, hf⟩ := chk_in hf
            refine r_iald X hP 9 (wX9_g0_9 _ _ _ _) h13 dX9_manyAt_68 ?_
            refine lv_aload_n hx hb dX9_manyAt_69 rfl (lv_at hl 0 rfl) ?_
            refine r_get X hP 0 (wX9_g0_0 _ _ _ _) rfl inc_X9 15 (by decide) fl_X9_35 rfl dX9_manyAt_70 ?_
            refine lv_iload hx hb dX9_manyAt_73 (lv_at hl 3 rfl) ?_
            refine lv_iload_n hx hb dX9_manyAt_75 rfl (lv_at hl 1 rfl) ?_
            refine lv_iadd hx hb dX9_manyAt_76 ?_
            obtain ⟨h14, hf⟩ := chk_in hf
            refine r_iald X hP 9 (wX9_g0_9 _ _ _ _) h14 dX9_manyAt_77 ?_
            refine lv_icmp_ne (tgt := 85) hx hb dX9_manyAt_78 (by decide) (fun c15 => ?_) (fun c15 => ?_)
            · have hf := (if_neg c15).symm.trans hf
              refine lv_iconst (v := 0) hx hb dX9_manyAt_85 (by decide) ?_
              exact J2 0 hf H locs ls hP hD hS (lv_sub hl [0, 1, 2, 3, 5] rfl)
            · have hf := (if_pos c15).symm.trans hf
              refine lv_iconst (v := 1) hx hb dX9_manyAt_81 (by decide) ?_
              refine lv_goto (tgt := 86) hx hb dX9_manyAt_82 (by decide) ?_
              exact J2 1 hf H locs ls hP hD hS (lv_sub hl [0, 1, 2, 3, 5] rfl))
    exact L4 1000 0 0 hf H locs ls hP hD hS (lv_sub hl [3, 4, 5, 2, 1, 0] rfl)
  refine lv_if_ne (tgt := 10) hx hb dX9_manyAt_2 (by decide) (fun c16 => ?_) (fun c16 => ?_)
  · have hf := (if_neg c16).symm.trans hf
    refine lv_iconst (v := 0) hx hb dX9_manyAt_10 (by decide) ?_
    exact J1 0 hf H locs ls hP hD hS (lv_sub hl [0, 3, 4] rfl)
  · have hf := (if_pos c16).symm.trans hf
    refine lv_bipush (v := 16) hx hb dX9_manyAt_5 (by decide) ?_
    refine lv_goto (tgt := 11) hx hb dX9_manyAt_7 (by decide) ?_
    exact J1 16 hf H locs ls hP hD hS (lv_sub hl [0, 3, 4] rfl)
def rm_X9_folds : Room := { frames := 2, cells := 0, slots := 0, locals := 47 }
theorem pv_X9_folds : PkV RX9 yX9_folds cX9_folds 15 (some .boolean) 2 := ⟨im_X9_folds, se_X9_folds, ini_X9, cd_X9_folds, by decide +kernel⟩
set_option maxHeartbeats 4000000 in
set_option maxRecDepth 100000 in
theorem c_X9_folds (l : Launch) (E : Ev) (a : Nat → Nat) (σ : Sg) (tr : Int64) (p1 : Int32) (p2 : Int32) {out : Int32 × Sg} (hf : f_X9_folds σ tr p1 p2 = some out) : MtI l yX9_folds (wl yX9_folds cX9_folds 15 (some .boolean)) rm_X9_folds E [.ref (a 0), .int p1, .int p2] (wX9 E a σ tr) out.1 (wX9 E a out.2 tr) := by
  refine mt_of (QQ := (fun A => va_Qi (fun x (_ : Unit) => x = out.1) (fun _ t => QW E (wX9 E a out.2 tr) t) A)) (by decide) (Nat.le_of_ble_eq_true rfl) (fun p e s m below meth c A ls X hr hP hD hS hl => ?_)
  have hx := X.1.1
  have hb := X.1.2.1
  have hl : lv_has ls 15 [(0, .ref (a 0)), (1, .int p1), (2, .int p2)] := hl
  obtain ⟨H, hHe⟩ : ∃ H : Heap, H = s.heap := ⟨_, rfl⟩
  obtain ⟨locs, hLe⟩ : ∃ locs : List Loc, locs = [] := ⟨_, rfl⟩
  have hP : va_P E.1 vwCl (wX9 E a σ tr) H := by rw [hHe]; exact hP
  have hS : va_S A s.heap H locs := by rw [hHe, hLe]; exact hS
  rw [← hLe, show W p l e rm_X9_folds s m ([.ref (a 0), .int p1, .int p2] : List Value).toArray below meth c s.heap locs 0 0 = W p l e rm_X9_folds s m ([.ref (a 0), .int p1, .int p2] : List Value).toArray below meth c H locs 0 0 from by rw [hHe]]
  refine lv_iload_n hx hb dX9_folds_0 rfl (lv_at hl 2 rfl) ?_
  refine lv_iconst (v := 1) hx hb dX9_folds_1 (by decide) ?_
  refine lv_iand hx hb dX9_folds_2 ?_
  refine lv_istore_n (lv' := [(3, .int (p2 &&& 1)), (0, .ref (a 0)), (1, .int p1), (2, .int p2)]) hx hb dX9_folds_3 rfl hl (by decide) rfl (fun ls hl => ?_)
  refine lv_iload_n hx hb dX9_folds_4 rfl (lv_at hl 3 rfl) ?_
  refine lv_bipush (v := 8) hx hb dX9_folds_5 (by decide) ?_
  refine lv_idiv hx hb dX9_folds_7 (by decide) ?_
  refine lv_iconst (v := 1) hx hb dX9_folds_8 (by decide) ?_
  refine lv_iadd hx hb dX9_folds_9 ?_
  refine lv_istore (lv' := [(4, .int ((p2 / 8) + 1)), (3, .int (p2 &&& 1)), (0, .ref (a 0)), (1, .int p1), (2, .int p2)]) hx hb dX9_folds_10 hl (by decide) rfl (fun ls hl => ?_)
  refine lv_iload hx hb dX9_folds_12 (lv_at hl 0 rfl) ?_
  refine lv_aload_n hx hb dX9_folds_14 rfl (lv_at hl 2 rfl) ?_
  refine r_get X hP 0 (wX9_g0_0 _ _ _ _) rfl inc_X9 16 (by decide) fl_X9_38 rfl dX9_folds_15 ?_
  refine lv_iconst (v := 2) hx hb dX9_folds_18 (by decide) ?_
  refine lv_iload_n hx hb dX9_folds_19 rfl (lv_at hl 3 rfl) ?_
  refine lv_imul hx hb dX9_folds_20 ?_
  refine lv_iload_n hx hb dX9_folds_21 rfl (lv_at hl 1 rfl) ?_
  refine lv_iadd hx hb dX9_folds_22 ?_
  obtain ⟨h1, hf⟩ := chk_in hf
  refine r_iald X hP 10 (wX9_g0_10 _ _ _ _) h1 dX9_folds_23 ?_
  refine lv_icmp_lt (tgt := 29) hx hb dX9_folds_24 (by decide) (fun c2 => ?_) (fun c2 => ?_)
  · have hf := (if_pos c2).symm.trans hf
    refine lv_bipush (v := 64) hx hb dX9_folds_29 (by decide) ?_
    refine lv_iload_n hx hb dX9_folds_31 rfl (lv_at hl 3 rfl) ?_
    refine lv_imul hx hb dX9_folds_32 ?_
    refine lv_istore (lv' := [(5, .int (64 * p1)), (4, .int ((p2 / 8) + 1)), (3, .int (p2 &&& 1)), (0, .ref (a 0)), (1, .int p1), (2, .int p2)]) hx hb dX9_folds_33 hl (by decide) rfl (fun ls hl => ?_)
    refine lv_iload hx hb dX9_folds_35 (lv_at hl 0 rfl) ?_
    refine lv_bipush (v := 64) hx hb dX9_folds_37 (by decide) ?_
    refine lv_iadd hx hb dX9_folds_39 ?_
    refine lv_istore (lv' := [(6, .int ((64 * p1) + 64)), (5, .int (64 * p1)), (4, .int ((p2 / 8) + 1)), (3, .int (p2 &&& 1)), (0, .ref (a 0)), (1, .int p1), (2, .int p2)]) hx hb dX9_folds_40 hl (by decide) rfl (fun ls hl => ?_)
    refine lv_iload_n hx hb dX9_folds_42 rfl (lv_at hl 3 rfl) ?_
    have J1 : ∀ (x3 : Int32), j_X9_folds_1 σ tr p1 p2 x3 = some out → ∀ (H : Heap) (locs : List Loc) (ls : Array Slot), va_P E.1 vwCl (wX9 E a σ tr) H → va_D A (wX9 E a σ tr) → va_S A s.heap H locs → lv_has ls 15 [(0, .ref (a 0)), (1, .int p1), (2, .int p2), (3, .int (p2 &&& 1)), (4, .int ((p2 / 8) + 1)), (5, .int (64 * p1)), (6, .int ((64 * p1) + 64))] → W p l e rm_X9_folds s m ([.ref (a 0), .int p1, .int p2] : List Value).toArray below meth c H locs 0 0 (MQ below (va_Qi (fun x (_ : Unit) => x = out.1) (fun _ t => QW E (wX9 E a out.2 tr) t) A) ([.ref (a 0), .int p1, .int p2] : List Value).toArray s 0 0 A) (F0 m 52 ls [.int x3]) := by
      intro x3 hf H locs ls hP hD hS hl
      refine lv_istore (lv' := [(7, .int x3), (0, .ref (a 0)), (1, .int p1), (2, .int p2), (3, .int (p2 &&& 1)), (4, .int ((p2 / 8) + 1)), (5, .int (64 * p1)), (6, .int ((64 * p1) + 64))]) hx hb dX9_folds_52 hl (by decide) rfl (fun ls hl => ?_)
      refine lv_bipush (v := 100) hx hb dX9_folds_54 (by decide) ?_
      refine lv_istore (lv' := [(8, .int 100), (7, .int x3), (0, .ref (a 0)), (1, .int p1), (2, .int p2), (3, .int (p2 &&& 1)), (4, .int ((p2 / 8) + 1)), (5, .int (64 * p1)), (6, .int ((64 * p1) + 64))]) hx hb dX9_folds_56 hl (by decide) rfl (fun ls hl => ?_)
      refine lv_bipush (v := (-100)) hx hb dX9_folds_58 (by decide) ?_
      refine lv_istore (lv' := [(9, .int (-100)), (8, .int 100), (7, .int x3), (0, .ref (a 0)), (1, .int p1), (2, .int p2), (3, .int (p2 &&& 1)), (4, .int ((p2 / 8) + 1)), (5, .int (64 * p1)), (6, .int ((64 * p1) + 64))]) hx hb dX9_folds_60 hl (by decide) rfl (fun ls hl => ?_)
      refine lv_iconst (v := 0) hx hb dX9_folds_62 (by decide) ?_
      refine lv_istore (lv' := [(10, .int 0), (9, .int (-100)), (8, .int 100), (7, .int x3), (0, .ref (a 0)), (1, .int p1), (2, .int p2), (3, .int (p2 &&& 1)), (4, .int ((p2 / 8) + 1)), (5, .int (64 * p1)), (6, .int ((64 * p1) + 64))]) hx hb dX9_folds_63 hl (by decide) rfl (fun ls hl => ?_)
      have J2 : ∀ (x4 : Int32) (x5 : Int32) (g6 : Sg), j_X9_folds_2 tr p1 p2 x3 x4 x5 g6 = some out → ∀ (H : Heap) (locs : List Loc) (ls : Array Slot), va_P E.1 vwCl (wX9 E a g6 tr) H → va_D A (wX9 E a g6 tr) → va_S A s.heap H locs → lv_has ls 15 [(0, .ref (a 0)), (1, .int p1), (2, .int p2), (3, .int (p2 &&& 1)), (5, .int (64 * p1)), (6, .int ((64 * p1) + 64)), (7, .int x3), (8, .int x4), (9, .int x5)] → W p l e rm_X9_folds s m ([.ref (a 0), .int p1, .int p2] : List Value).toArray below meth c H locs 0 0 (MQ below (va_Qi (fun x (_ : Unit) => x = out.1) (fun _ t => QW E (wX9 E a out.2 tr) t) A) ([.ref (a 0), .int p1, .int p2] : List Value).toArray s 0 0 A) (F0 m 220 ls []) := by
        intro x4 x5 g6 hf H locs ls hP hD hS hl
        refine lv_iload_n hx hb dX9_folds_220 rfl (lv_at hl 2 rfl) ?_
        refine lv_iconst (v := 2) hx hb dX9_folds_221 (by decide) ?_
        refine lv_ishr hx hb dX9_folds_222 ?_
        refine lv_iconst (v := 1) hx hb dX9_folds_223 (by decide) ?_
        refine lv_iand hx hb dX9_folds_224 ?_
        refine lv_iconst (v := 1) hx hb dX9_folds_225 (by decide) ?_
        refine lv_icmp_ne (tgt := 233) hx hb dX9_folds_226 (by decide) (fun c7 => ?_) (fun c7 => ?_)
        · have hf := (if_neg c7).symm.trans hf
          refine lv_iconst (v := 0) hx hb dX9_folds_233 (by decide) ?_
          refine lv_istore (lv' := [(10, .int 0), (0, .ref (a 0)), (1, .int p1), (2, .int p2), (3, .int (p2 &&& 1)), (5, .int (64 * p1)), (6, .int ((64 * p1) + 64)), (7, .int x3), (8, .int x4), (9, .int x5)]) hx hb dX9_folds_234 hl (by decide) rfl (fun ls hl => ?_)
          refine lv_iconst (v := 0) hx hb dX9_folds_236 (by decide) ?_
          refine lv_istore (lv' := [(11, .int 0), (10, .int 0), (0, .ref (a 0)), (1, .int p1), (2, .int p2), (3, .int (p2 &&& 1)), (5, .int (64 * p1)), (6, .int ((64 * p1) + 64)), (7, .int x3), (8, .int x4), (9, .int x5)]) hx hb dX9_folds_237 hl (by decide) rfl (fun ls hl => ?_)
          have J3 : ∀ (g8 : Sg), j_X9_folds_3 p1 p2 x4 x5 g8 = some out → ∀ (H : Heap) (locs : List Loc) (ls : Array Slot), va_P E.1 vwCl (wX9 E a g8 tr) H → va_D A (wX9 E a g8 tr) → va_S A s.heap H locs → lv_has ls 15 [(0, .ref (a 0)), (1, .int p1), (3, .int (p2 &&& 1)), (8, .int x4), (9, .int x5)] → W p l e rm_X9_folds s m ([.ref (a 0), .int p1, .int p2] : List Value).toArray below meth c H locs 0 0 (MQ below (va_Qi (fun x (_ : Unit) => x = out.1) (fun _ t => QW E (wX9 E a out.2 tr) t) A) ([.ref (a 0), .int p1, .int p2] : List Value).toArray s 0 0 A) (F0 m 471 ls []) := by
            intro g8 hf H locs ls hP hD hS hl
            refine lv_aload_n hx hb dX9_folds_471 rfl (lv_at hl 0 rfl) ?_
            refine r_get X hP 0 (wX9_g0_0 _ _ _ _) rfl inc_X9 16 (by decide) fl_X9_38 rfl dX9_folds_472 ?_
            refine lv_iconst (v := 2) hx hb dX9_folds_475 (by decide) ?_
            refine lv_iload_n hx hb dX9_folds_476 rfl (lv_at hl 1 rfl) ?_
            refine lv_imul hx hb dX9_folds_477 ?_
            refine lv_iconst (v := 2) hx hb dX9_folds_478 (by decide) ?_
            refine lv_iadd hx hb dX9_folds_479 ?_
            refine lv_iload_n hx hb dX9_folds_480 rfl (lv_at hl 2 rfl) ?_
            refine lv_iadd hx hb dX9_folds_481 ?_
            refine lv_iload hx hb dX9_folds_482 (lv_at hl 4 rfl) ?_
            refine lv_iload hx hb dX9_folds_484 (lv_at hl 3 rfl) ?_
            refine lv_isub hx hb dX9_folds_486 ?_
            refine lv_iconst (v := 1) hx hb dX9_folds_487 (by decide) ?_
            refine lv_iadd hx hb dX9_folds_488 ?_
            obtain ⟨h9, hf⟩ := chk_in hf
            refine r_iast X hP hD hS 10 (wX9_g0_10 _ _ _ _) h9 (wX9_t0_10 _ _ _ _ _ _) dX9_folds_489 (fun H locs hP hD hS => ?_)
            refine lv_aload_n hx hb dX9_folds_490 rfl (lv_at hl 0 rfl) ?_
            refine r_get X hP 0 (wX9_g0_0 _ _ _ _) rfl inc_X9 16 (by decide) fl_X9_38 rfl dX9_folds_491 ?_
            refine lv_iconst (v := 2) hx hb dX9_folds_494 (by decide) ?_
            refine lv_iload_n hx hb dX9_folds_495 rfl (lv_at hl 1 rfl) ?_
            refine lv_imul hx hb dX9_folds_496 ?_
            refine lv_iconst (v := 3) hx hb dX9_folds_497 (by decide) ?_
            refine lv_iadd hx hb dX9_folds_498 ?_
            refine lv_iload_n hx hb dX9_folds_499 rfl (lv_at hl 2 rfl) ?_
            refine lv_isub hx hb dX9_folds_500 ?_
            refine lv_aload_n hx hb dX9_folds_501 rfl (lv_at hl 0 rfl) ?_
            refine r_get X hP 0 (wX9_g0_0 _ _ _ _) rfl inc_X9 16 (by decide) fl_X9_38 rfl dX9_folds_502 ?_
            refine lv_iconst (v := 2) hx hb dX9_folds_505 (by decide) ?_
            refine lv_iload_n hx hb dX9_folds_506 rfl (lv_at hl 1 rfl) ?_
            refine lv_imul hx hb dX9_folds_507 ?_
            refine lv_iconst (v := 1) hx hb dX9_folds_508 (by decide) ?_
            refine lv_iadd hx hb dX9_folds_509 ?_
            refine lv_iload_n hx hb dX9_folds_510 rfl (lv_at hl 2 rfl) ?_
            refine lv_isub hx hb dX9_folds_511 ?_
            obtain ⟨h10, hf⟩ := chk_in hf
            refine r_iald X hP 10 (wX9_g0_10 _ _ _ _) h10 dX9_folds_512 ?_
            obtain ⟨h11, hf⟩ := chk_in hf
            refine r_iast X hP hD hS 10 (wX9_g0_10 _ _ _ _) h11 (wX9_t0_10 _ _ _ _ _ _) dX9_folds_513 (fun H locs hP hD hS => ?_)
            refine lv_iconst (v := 1) hx hb dX9_folds_514 (by decide) ?_
            have ho := Option.some.inj hf
            have hv : 1 = out.1 := by rw [← ho]
            have hw := congrArg (fun o : Int32 × Sg => (wX9 E a o.2 tr)) ho
            exact r_zret X hr hP hS rfl hv hw dX9_folds_515
          have L15 := lc2_ind (o := out) (step := (s_X9_folds_239 tr p1 p2 x3 x4 (j_X9_folds_3 p1 p2 x4 x5))) (fun x12 g13 => ∀ (H : Heap) (locs : List Loc) (ls : Array Slot), va_P E.1 vwCl (wX9 E a g13 tr) H → va_D A (wX9 E a g13 tr) → va_S A s.heap H locs → lv_has ls 15 [(0, .ref (a 0)), (1, .int p1), (3, .int (p2 &&& 1)), (5, .int (64 * p1)), (6, .int ((64 * p1) + 64)), (7, .int x3), (8, .int x4), (9, .int x5), (10, .int 0), (11, .int x12)] → W p l e rm_X9_folds s m ([.ref (a 0), .int p1, .int p2] : List Value).toArray below meth c H locs 0 0 (MQ below (va_Qi (fun x (_ : Unit) => x = out.1) (fun _ t => QW E (wX9 E a out.2 tr) t) A) ([.ref (a 0), .int p1, .int p2] : List Value).toArray s 0 0 A) (F0 m 239 ls [])) (fun x12 g13 k14 ih15 hf H locs ls hP hD hS hl => by
            refine lv_iload hx hb dX9_folds_239 (lv_at hl 9 rfl) ?_
            refine lv_aload_n hx hb dX9_folds_241 rfl (lv_at hl 0 rfl) ?_
            obtain ⟨z16, hz16, hf⟩ := obd hf
            refine cV_allI X (As := []) (rest := [.int x12]) (c_X9_cells l E a g13 tr hz16) pv_X9_cells ml_X9_51 ⟨rfl, rfl⟩ ⟨(Nat.le_of_ble_eq_true rfl), (Nat.le_of_ble_eq_true rfl)⟩ hP hD hS (wX9_g0_0 _ _ _ _) rfl (wX9_adr _ _ _ _ _ _) rfl hl.1 rfl (Nat.le_of_ble_eq_true rfl) dX9_folds_242 ⟨Nat.le_refl _, Nat.le_refl _⟩ (fun H locs hP hD hS => ?_)
            refine lv_icmp_ge (tgt := 471) hx hb dX9_folds_245 (by decide) (fun c17 => ?_) (fun c17 => ?_)
            · have hf := (if_pos c17).symm.trans hf
              exact J3 g13 hf H locs ls hP hD hS (lv_sub hl [0, 1, 2, 6, 7] rfl)
            · have hf := (if_neg c17).symm.trans hf
              refine lv_aload_n hx hb dX9_folds_248 rfl (lv_at hl 0 rfl) ?_
              refine r_get X hP 0 (wX9_g0_0 _ _ _ _) rfl inc_X9 15 (by decide) fl_X9_35 rfl dX9_folds_249 ?_
              refine lv_iload hx hb dX9_folds_252 (lv_at hl 3 rfl) ?_
              refine lv_bipush (v := 32) hx hb dX9_folds_254 (by decide) ?_
              refine lv_iadd hx hb dX9_folds_256 ?_
              refine lv_iload hx hb dX9_folds_257 (lv_at hl 9 rfl) ?_
              refine lv_iadd hx hb dX9_folds_259 ?_
              obtain ⟨h18, hf⟩ := chk_in hf
              refine r_iald X hP 9 (wX9_g0_9 _ _ _ _) h18 dX9_folds_260 ?_
              refine lv_istore (lv' := [(12, .int (g13 9 ((((64 * p1) + 32) + x12) : Int32).toNatClampNeg)), (0, .ref (a 0)), (1, .int p1), (3, .int (p2 &&& 1)), (5, .int (64 * p1)), (6, .int ((64 * p1) + 64)), (7, .int x3), (8, .int x4), (9, .int x5), (10, .int 0), (11, .int x12)]) hx hb dX9_folds_261 hl (by decide) rfl (fun ls hl => ?_)
              refine lv_aload_n hx hb dX9_folds_263 rfl (lv_at hl 1 rfl) ?_
              refine lv_iload hx hb dX9_folds_264 (lv_at hl 4 rfl) ?_
              refine lv_iload_n hx hb dX9_folds_266 rfl (lv_at hl 3 rfl) ?_
              refine lv_iload hx hb dX9_folds_267 (lv_at hl 10 rfl) ?_
              refine lv_iconst (v := 1) hx hb dX9_folds_269 (by decide) ?_
              obtain ⟨z19, hz19, hf⟩ := obd hf
              refine cV_allI X (As := [.int (64 * p1), .int (p2 &&& 1), .int x12, .int 1]) (rest := []) (c_X9_manyAt l E a g13 tr (64 * p1) (p2 &&& 1) x12 1 hz19) pv_X9_manyAt ml_X9_129 ⟨rfl, rfl⟩ ⟨(Nat.le_of_ble_eq_true rfl), (Nat.le_of_ble_eq_true rfl)⟩ hP hD hS (wX9_g0_0 _ _ _ _) rfl (wX9_adr _ _ _ _ _ _) rfl hl.1 rfl (Nat.le_of_ble_eq_true rfl) dX9_folds_270 ⟨Nat.le_refl _, Nat.le_refl _⟩ (fun H locs hP hD hS => ?_)
              refine lv_istore (lv' := [(13, .int z19), (12, .int (g13 9 ((((64 * p1) + 32) + x12) : Int32).toNatClampNeg)), (0, .ref (a 0)), (1, .int p1), (3, .int (p2 &&& 1)), (5, .int (64 * p1)), (6, .int ((64 * p1) + 64)), (7, .int x3), (8, .int x4), (9, .int x5), (10, .int 0), (11, .int x12)]) hx hb dX9_folds_273 hl (by decide) rfl (fun ls hl => ?_)
              refine lv_aload_n hx hb dX9_folds_275 rfl (lv_at hl 2 rfl) ?_
              refine lv_iload hx hb dX9_folds_276 (lv_at hl 5 rfl) ?_
              refine lv_iload_n hx hb dX9_folds_278 rfl (lv_at hl 4 rfl) ?_
              refine lv_iload hx hb dX9_folds_279 (lv_at hl 11 rfl) ?_
              refine lv_iconst (v := 0) hx hb dX9_folds_281 (by decide) ?_
              obtain ⟨z20, hz20, hf⟩ := obd hf
              refine cV_allI X (As := [.int (64 * p1), .int (p2 &&& 1), .int x12, .int 0]) (rest := []) (c_X9_manyAt l E a g13 tr (64 * p1) (p2 &&& 1) x12 0 hz20) pv_X9_manyAt ml_X9_129 ⟨rfl, rfl⟩ ⟨(Nat.le_of_ble_eq_true rfl), (Nat.le_of_ble_eq_true rfl)⟩ hP hD hS (wX9_g0_0 _ _ _ _) rfl (wX9_adr _ _ _ _ _ _) rfl hl.1 rfl (Nat.le_of_ble_eq_true rfl) dX9_folds_282 ⟨Nat.le_refl _, Nat.le_refl _⟩ (fun H locs hP hD hS => ?_)
              refine lv_istore (lv' := [(14, .int z20), (13, .int z19), (12, .int (g13 9 ((((64 * p1) + 32) + x12) : Int32).toNatClampNeg)), (0, .ref (a 0)), (1, .int p1), (3, .int (p2 &&& 1)), (5, .int (64 * p1)), (6, .int ((64 * p1) + 64)), (7, .int x3), (8, .int x4), (9, .int x5), (10, .int 0), (11, .int x12)]) hx hb dX9_folds_285 hl (by decide) rfl (fun ls hl => ?_)
              refine lv_aload_n hx hb dX9_folds_287 rfl (lv_at hl 3 rfl) ?_
              refine r_get X hP 0 (wX9_g0_0 _ _ _ _) rfl inc_X9 15 (by decide) fl_X9_35 rfl dX9_folds_288 ?_
              refine lv_iload hx hb dX9_folds_291 (lv_at hl 7 rfl) ?_
              refine lv_bipush (v := 32) hx hb dX9_folds_293 (by decide) ?_
              refine lv_iadd hx hb dX9_folds_295 ?_
              refine lv_iload hx hb dX9_folds_296 (lv_at hl 12 rfl) ?_
              refine lv_iadd hx hb dX9_folds_298 ?_
              refine lv_aload_n hx hb dX9_folds_299 rfl (lv_at hl 3 rfl) ?_
              refine r_get X hP 0 (wX9_g0_0 _ _ _ _) rfl inc_X9 17 (by decide) fl_X9_41 rfl dX9_folds_300 ?_
              refine lv_iload hx hb dX9_folds_303 (lv_at hl 12 rfl) ?_
              obtain ⟨h21, hf⟩ := chk_in hf
              refine r_zald X hP 11 (wX9_g0_11 _ _ _ _) h21 dX9_folds_305 ?_
              have J4 : ∀ (x22 : Int32), j_X9_folds_4 p1 p2 x3 x4 x12 g13 k14 x22 = some out → ∀ (H : Heap) (locs : List Loc) (ls : Array Slot), va_P E.1 vwCl (wX9 E a g13 tr) H → va_D A (wX9 E a g13 tr) → va_S A s.heap H locs → lv_has ls 15 [(0, .ref (a 0)), (1, .int p1), (3, .int (p2 &&& 1)), (5, .int (64 * p1)), (6, .int ((64 * p1) + 64)), (7, .int x3), (8, .int x4), (9, .int x5), (10, .int 0), (11, .int x12)] → W p l e rm_X9_folds s m ([.ref (a 0), .int p1, .int p2] : List Value).toArray below meth c H locs 0 0 (MQ below (va_Qi (fun x (_ : Unit) => x = out.1) (fun _ t => QW E (wX9 E a out.2 tr) t) A) ([.ref (a 0), .int p1, .int p2] : List Value).toArray s 0 0 A) (F0 m 345 ls [.int x22, .int ((((64 * p1) + 64) + 32) + x12), .ref (a 9)]) := by
                intro x22 hf H locs ls hP hD hS hl
                obtain ⟨h23, hf⟩ := chk_in hf
                refine r_iast X hP hD hS 9 (wX9_g0_9 _ _ _ _) h23 (wX9_t0_9 _ _ _ _ _ _) dX9_folds_345 (fun H locs hP hD hS => ?_)
                refine lv_aload_n hx hb dX9_folds_346 rfl (lv_at hl 0 rfl) ?_
                refine r_get X hP 0 (wX9_g0_0 _ _ _ _) rfl inc_X9 15 (by decide) fl_X9_35 rfl dX9_folds_347 ?_
                refine lv_iload hx hb dX9_folds_350 (lv_at hl 4 rfl) ?_
                refine lv_bipush (v := 48) hx hb dX9_folds_352 (by decide) ?_
                refine lv_iadd hx hb dX9_folds_354 ?_
                refine lv_iload hx hb dX9_folds_355 (lv_at hl 9 rfl) ?_
                refine lv_iadd hx hb dX9_folds_357 ?_
                refine lv_aload_n hx hb dX9_folds_358 rfl (lv_at hl 0 rfl) ?_
                refine r_get X hP 0 (wX9_g0_0 _ _ _ _) rfl inc_X9 17 (by decide) fl_X9_41 rfl dX9_folds_359 ?_
                refine lv_iload hx hb dX9_folds_362 (lv_at hl 9 rfl) ?_
                obtain ⟨h24, hf⟩ := chk_in hf
                refine r_zald X hP 11 (wX9_g0_11 _ _ _ _) h24 dX9_folds_364 ?_
                have J5 : ∀ (x25 : Int32), j_X9_folds_5 p1 p2 x3 x4 x12 g13 k14 x22 x25 = some out → ∀ (H : Heap) (locs : List Loc) (ls : Array Slot), va_P E.1 vwCl (wX9 E a (sg_st g13 9 (((((64 * p1) + 64) + 32) + x12) : Int32).toNatClampNeg x22) tr) H → va_D A (wX9 E a (sg_st g13 9 (((((64 * p1) + 64) + 32) + x12) : Int32).toNatClampNeg x22) tr) → va_S A s.heap H locs → lv_has ls 15 [(0, .ref (a 0)), (1, .int p1), (3, .int (p2 &&& 1)), (5, .int (64 * p1)), (6, .int ((64 * p1) + 64)), (7, .int x3), (8, .int x4), (9, .int x5), (10, .int 0), (11, .int x12)] → W p l e rm_X9_folds s m ([.ref (a 0), .int p1, .int p2] : List Value).toArray below meth c H locs 0 0 (MQ below (va_Qi (fun x (_ : Unit) => x = out.1) (fun _ t => QW E (wX9 E a out.2 tr) t) A) ([.ref (a 0), .int p1, .int p2] : List Value).toArray s 0 0 A) (F0 m 399 ls [.int x25, .int ((((64 * p1) + 64) + 48) + x12), .ref (a 9)]) := by
                  intro x25 hf H locs ls hP hD hS hl
                  obtain ⟨h26, hf⟩ := chk_in hf
                  refine r_iast X hP hD hS 9 (wX9_g0_9 _ _ _ _) h26 (wX9_t0_9 _ _ _ _ _ _) dX9_folds_399 (fun H locs hP hD hS => ?_)
                  refine lv_aload_n hx hb dX9_folds_400 rfl (lv_at hl 0 rfl) ?_
                  refine r_get X hP 0 (wX9_g0_0 _ _ _ _) rfl inc_X9 15 (by decide) fl_X9_35 rfl dX9_folds_401 ?_
                  refine lv_iload hx hb dX9_folds_404 (lv_at hl 4 rfl) ?_
                  refine lv_iload_n hx hb dX9_folds_406 rfl (lv_at hl 2 rfl) ?_
                  have J6 : ∀ (x27 : Int32), j_X9_folds_6 p1 p2 x3 x4 x12 g13 k14 x22 x25 x27 = some out → ∀ (H : Heap) (locs : List Loc) (ls : Array Slot), va_P E.1 vwCl (wX9 E a (sg_st (sg_st g13 9 (((((64 * p1) + 64) + 32) + x12) : Int32).toNatClampNeg x22) 9 (((((64 * p1) + 64) + 48) + x12) : Int32).toNatClampNeg x25) tr) H → va_D A (wX9 E a (sg_st (sg_st g13 9 (((((64 * p1) + 64) + 32) + x12) : Int32).toNatClampNeg x22) 9 (((((64 * p1) + 64) + 48) + x12) : Int32).toNatClampNeg x25) tr) → va_S A s.heap H locs → lv_has ls 15 [(0, .ref (a 0)), (1, .int p1), (3, .int (p2 &&& 1)), (5, .int (64 * p1)), (6, .int ((64 * p1) + 64)), (7, .int x3), (8, .int x4), (9, .int x5), (10, .int 0), (11, .int x12)] → W p l e rm_X9_folds s m ([.ref (a 0), .int p1, .int p2] : List Value).toArray below meth c H locs 0 0 (MQ below (va_Qi (fun x (_ : Unit) => x = out.1) (fun _ t => QW E (wX9 E a out.2 tr) t) A) ([.ref (a 0), .int p1, .int p2] : List Value).toArray s 0 0 A) (F0 m 416 ls [.int x27, .int ((64 * p1) + 64), .ref (a 9)]) := by
                    intro x27 hf H locs ls hP hD hS hl
                    refine lv_iadd hx hb dX9_folds_416 ?_
                    refine lv_iload hx hb dX9_folds_417 (lv_at hl 9 rfl) ?_
                    refine lv_iadd hx hb dX9_folds_419 ?_
                    refine lv_aload_n hx hb dX9_folds_420 rfl (lv_at hl 0 rfl) ?_
                    refine r_get X hP 0 (wX9_g0_0 _ _ _ _) rfl inc_X9 15 (by decide) fl_X9_35 rfl dX9_folds_421 ?_
                    refine lv_iload hx hb dX9_folds_424 (lv_at hl 3 rfl) ?_
                    refine lv_iload_n hx hb dX9_folds_426 rfl (lv_at hl 2 rfl) ?_
                    have J7 : ∀ (x28 : Int32), j_X9_folds_7 p1 x3 x4 x12 g13 k14 x22 x25 x27 x28 = some out → ∀ (H : Heap) (locs : List Loc) (ls : Array Slot), va_P E.1 vwCl (wX9 E a (sg_st (sg_st g13 9 (((((64 * p1) + 64) + 32) + x12) : Int32).toNatClampNeg x22) 9 (((((64 * p1) + 64) + 48) + x12) : Int32).toNatClampNeg x25) tr) H → va_D A (wX9 E a (sg_st (sg_st g13 9 (((((64 * p1) + 64) + 32) + x12) : Int32).toNatClampNeg x22) 9 (((((64 * p1) + 64) + 48) + x12) : Int32).toNatClampNeg x25) tr) → va_S A s.heap H locs → lv_has ls 15 [(0, .ref (a 0)), (1, .int p1), (3, .int (p2 &&& 1)), (5, .int (64 * p1)), (6, .int ((64 * p1) + 64)), (7, .int x3), (8, .int x4), (9, .int x5), (10, .int 0), (11, .int x12)] → W p l e rm_X9_folds s m ([.ref (a 0), .int p1, .int p2] : List Value).toArray below meth c H locs 0 0 (MQ below (va_Qi (fun x (_ : Unit) => x = out.1) (fun _ t => QW E (wX9 E a out.2 tr) t) A) ([.ref (a 0), .int p1, .int p2] : List Value).toArray s 0 0 A) (F0 m 436 ls [.int x28, .int (64 * p1), .ref (a 9), .int ((((64 * p1) + 64) + x27) + x12), .ref (a 9)]) := by
                      intro x28 hf H locs ls hP hD hS hl
                      refine lv_iadd hx hb dX9_folds_436 ?_
                      refine lv_iload hx hb dX9_folds_437 (lv_at hl 9 rfl) ?_
                      refine lv_iadd hx hb dX9_folds_439 ?_
                      obtain ⟨h29, hf⟩ := chk_in hf
                      refine r_iald X hP 9 (wX9_g0_9 _ _ _ _) h29 dX9_folds_440 ?_
                      obtain ⟨h30, hf⟩ := chk_in hf
                      refine r_iast X hP hD hS 9 (wX9_g0_9 _ _ _ _) h30 (wX9_t0_9 _ _ _ _ _ _) dX9_folds_441 (fun H locs hP hD hS => ?_)
                      refine lv_aload_n hx hb dX9_folds_442 rfl (lv_at hl 0 rfl) ?_
                      refine r_get X hP 0 (wX9_g0_0 _ _ _ _) rfl inc_X9 15 (by decide) fl_X9_35 rfl dX9_folds_443 ?_
                      refine lv_iload hx hb dX9_folds_446 (lv_at hl 4 rfl) ?_
                      refine lv_iload hx hb dX9_folds_448 (lv_at hl 5 rfl) ?_
                      refine lv_iadd hx hb dX9_folds_450 ?_
                      refine lv_iload hx hb dX9_folds_451 (lv_at hl 9 rfl) ?_
                      refine lv_iadd hx hb dX9_folds_453 ?_
                      refine lv_aload_n hx hb dX9_folds_454 rfl (lv_at hl 0 rfl) ?_
                      refine r_get X hP 0 (wX9_g0_0 _ _ _ _) rfl inc_X9 18 (by decide) fl_X9_44 rfl dX9_folds_455 ?_
                      refine lv_iload hx hb dX9_folds_458 (lv_at hl 9 rfl) ?_
                      obtain ⟨h31, hf⟩ := chk_in hf
                      refine r_iald X hP 12 (wX9_g0_12 _ _ _ _) h31 dX9_folds_460 ?_
                      refine lv_iload hx hb dX9_folds_461 (lv_at hl 6 rfl) ?_
                      refine lv_isub hx hb dX9_folds_463 ?_
                      obtain ⟨h32, hf⟩ := chk_in hf
                      refine r_iast X hP hD hS 9 (wX9_g0_9 _ _ _ _) h32 (wX9_t0_9 _ _ _ _ _ _) dX9_folds_464 (fun H locs hP hD hS => ?_)
                      refine lv_iinc (v := (x12 + 1)) (lv' := [(11, .int (x12 + 1)), (0, .ref (a 0)), (1, .int p1), (3, .int (p2 &&& 1)), (5, .int (64 * p1)), (6, .int ((64 * p1) + 64)), (7, .int x3), (8, .int x4), (9, .int x5), (10, .int 0)]) hx hb dX9_folds_465 hl (k := 9) rfl rfl (by decide) rfl (fun ls hl => ?_)
                      refine lv_goto (tgt := 239) hx hb dX9_folds_468 (by decide) ?_
                      exact ih15 (x12 + 1) (sg_st (sg_st (sg_st (sg_st g13 9 (((((64 * p1) + 64) + 32) + x12) : Int32).toNatClampNeg x22) 9 (((((64 * p1) + 64) + 48) + x12) : Int32).toNatClampNeg x25) 9 (((((64 * p1) + 64) + x27) + x12) : Int32).toNatClampNeg ((sg_st (sg_st g13 9 (((((64 * p1) + 64) + 32) + x12) : Int32).toNatClampNeg x22) 9 (((((64 * p1) + 64) + 48) + x12) : Int32).toNatClampNeg x25) 9 ((((64 * p1) + x28) + x12) : Int32).toNatClampNeg)) 9 (((((64 * p1) + 64) + x3) + x12) : Int32).toNatClampNeg (((sg_st (sg_st (sg_st g13 9 (((((64 * p1) + 64) + 32) + x12) : Int32).toNatClampNeg x22) 9 (((((64 * p1) + 64) + 48) + x12) : Int32).toNatClampNeg x25) 9 (((((64 * p1) + 64) + x27) + x12) : Int32).toNatClampNeg ((sg_st (sg_st g13 9 (((((64 * p1) + 64) + 32) + x12) : Int32).toNatClampNeg x22) 9 (((((64 * p1) + 64) + 48) + x12) : Int32).toNatClampNeg x25) 9 ((((64 * p1) + x28) + x12) : Int32).toNatClampNeg)) 12 (x12 : Int32).toNatClampNeg) - x4)) hf H locs ls hP hD hS (lv_sub hl [1, 2, 3, 4, 5, 6, 7, 8, 9, 0] rfl)
                    refine lv_if_ne (tgt := 435) hx hb dX9_folds_427 (by decide) (fun c33 => ?_) (fun c33 => ?_)
                    · have hf := (if_neg c33).symm.trans hf
                      refine lv_iconst (v := 0) hx hb dX9_folds_435 (by decide) ?_
                      exact J7 0 hf H locs ls hP hD hS (lv_sub hl [0, 1, 2, 3, 4, 5, 6, 7, 8, 9] rfl)
                    · have hf := (if_pos c33).symm.trans hf
                      refine lv_bipush (v := 16) hx hb dX9_folds_430 (by decide) ?_
                      refine lv_goto (tgt := 436) hx hb dX9_folds_432 (by decide) ?_
                      exact J7 16 hf H locs ls hP hD hS (lv_sub hl [0, 1, 2, 3, 4, 5, 6, 7, 8, 9] rfl)
                  refine lv_if_ne (tgt := 415) hx hb dX9_folds_407 (by decide) (fun c34 => ?_) (fun c34 => ?_)
                  · have hf := (if_neg c34).symm.trans hf
                    refine lv_iconst (v := 0) hx hb dX9_folds_415 (by decide) ?_
                    exact J6 0 hf H locs ls hP hD hS (lv_sub hl [0, 1, 2, 3, 4, 5, 6, 7, 8, 9] rfl)
                  · have hf := (if_pos c34).symm.trans hf
                    refine lv_bipush (v := 16) hx hb dX9_folds_410 (by decide) ?_
                    refine lv_goto (tgt := 416) hx hb dX9_folds_412 (by decide) ?_
                    exact J6 16 hf H locs ls hP hD hS (lv_sub hl [0, 1, 2, 3, 4, 5, 6, 7, 8, 9] rfl)
                refine lv_if_eq (tgt := 386) hx hb dX9_folds_365 (by decide) (fun c35 => ?_) (fun c35 => ?_)
                · have hf := (if_pos c35).symm.trans hf
                  refine lv_aload_n hx hb dX9_folds_386 rfl (lv_at hl 0 rfl) ?_
                  refine r_get X hP 0 (wX9_g0_0 _ _ _ _) rfl inc_X9 15 (by decide) fl_X9_35 rfl dX9_folds_387 ?_
                  refine lv_iload hx hb dX9_folds_390 (lv_at hl 3 rfl) ?_
                  refine lv_bipush (v := 48) hx hb dX9_folds_392 (by decide) ?_
                  refine lv_iadd hx hb dX9_folds_394 ?_
                  refine lv_iload hx hb dX9_folds_395 (lv_at hl 9 rfl) ?_
                  refine lv_iadd hx hb dX9_folds_397 ?_
                  obtain ⟨h36, hf⟩ := chk_in hf
                  refine r_iald X hP 9 (wX9_g0_9 _ _ _ _) h36 dX9_folds_398 ?_
                  exact J5 ((sg_st g13 9 (((((64 * p1) + 64) + 32) + x12) : Int32).toNatClampNeg x22) 9 ((((64 * p1) + 48) + x12) : Int32).toNatClampNeg) hf H locs ls hP hD hS (lv_sub hl [0, 1, 2, 3, 4, 5, 6, 7, 8, 9] rfl)
                · have hf := (if_neg c35).symm.trans hf
                  refine lv_iconst (v := 1) hx hb dX9_folds_368 (by decide) ?_
                  refine lv_aload_n hx hb dX9_folds_369 rfl (lv_at hl 0 rfl) ?_
                  refine r_get X hP 0 (wX9_g0_0 _ _ _ _) rfl inc_X9 15 (by decide) fl_X9_35 rfl dX9_folds_370 ?_
                  refine lv_iload hx hb dX9_folds_373 (lv_at hl 3 rfl) ?_
                  refine lv_bipush (v := 48) hx hb dX9_folds_375 (by decide) ?_
                  refine lv_iadd hx hb dX9_folds_377 ?_
                  refine lv_iload hx hb dX9_folds_378 (lv_at hl 9 rfl) ?_
                  refine lv_iadd hx hb dX9_folds_380 ?_
                  obtain ⟨h37, hf⟩ := chk_in hf
                  refine r_iald X hP 9 (wX9_g0_9 _ _ _ _) h37 dX9_folds_381 ?_
                  refine lv_isub hx hb dX9_folds_382 ?_
                  refine lv_goto (tgt := 399) hx hb dX9_folds_383 (by decide) ?_
                  exact J5 (1 - ((sg_st g13 9 (((((64 * p1) + 64) + 32) + x12) : Int32).toNatClampNeg x22) 9 ((((64 * p1) + 48) + x12) : Int32).toNatClampNeg)) hf H locs ls hP hD hS (lv_sub hl [0, 1, 2, 3, 4, 5, 6, 7, 8, 9] rfl)
              refine lv_if_eq (tgt := 331) hx hb dX9_folds_306 (by decide) (fun c38 => ?_) (fun c38 => ?_)
              · have hf := (if_pos c38).symm.trans hf
                refine lv_iload hx hb dX9_folds_331 (lv_at hl 2 rfl) ?_
                refine lv_iload hx hb dX9_folds_333 (lv_at hl 11 rfl) ?_
                have J8 : ∀ (x39 : Int32), j_X9_folds_8 p1 p2 x3 x4 x12 g13 k14 x39 = some out → ∀ (H : Heap) (locs : List Loc) (ls : Array Slot), va_P E.1 vwCl (wX9 E a g13 tr) H → va_D A (wX9 E a g13 tr) → va_S A s.heap H locs → lv_has ls 15 [(0, .ref (a 0)), (1, .int p1), (3, .int (p2 &&& 1)), (5, .int (64 * p1)), (6, .int ((64 * p1) + 64)), (7, .int x3), (8, .int x4), (9, .int x5), (10, .int 0), (11, .int x12)] → W p l e rm_X9_folds s m ([.ref (a 0), .int p1, .int p2] : List Value).toArray below meth c H locs 0 0 (MQ below (va_Qi (fun x (_ : Unit) => x = out.1) (fun _ t => QW E (wX9 E a out.2 tr) t) A) ([.ref (a 0), .int p1, .int p2] : List Value).toArray s 0 0 A) (F0 m 344 ls [.int x39, .int (g13 9 ((((64 * p1) + 32) + x12) : Int32).toNatClampNeg), .int ((((64 * p1) + 64) + 32) + x12), .ref (a 9)]) := by
                  intro x39 hf H locs ls hP hD hS hl
                  refine lv_iadd hx hb dX9_folds_344 ?_
                  exact J4 ((g13 9 ((((64 * p1) + 32) + x12) : Int32).toNatClampNeg) + x39) hf H locs ls hP hD hS (lv_sub hl [0, 1, 2, 3, 4, 5, 6, 7, 8, 9] rfl)
                refine lv_if_eq (tgt := 342) hx hb dX9_folds_335 (by decide) (fun c40 => ?_) (fun c40 => ?_)
                · have hf := (if_pos c40).symm.trans hf
                  refine lv_iload hx hb dX9_folds_342 (lv_at hl 1 rfl) ?_
                  exact J8 z19 hf H locs ls hP hD hS (lv_sub hl [3, 4, 5, 6, 7, 8, 9, 10, 11, 12] rfl)
                · have hf := (if_neg c40).symm.trans hf
                  refine lv_iconst (v := 0) hx hb dX9_folds_338 (by decide) ?_
                  refine lv_goto (tgt := 344) hx hb dX9_folds_339 (by decide) ?_
                  exact J8 0 hf H locs ls hP hD hS (lv_sub hl [3, 4, 5, 6, 7, 8, 9, 10, 11, 12] rfl)
              · have hf := (if_neg c38).symm.trans hf
                refine lv_iload hx hb dX9_folds_309 (lv_at hl 11 rfl) ?_
                have J9 : ∀ (x41 : Int32), j_X9_folds_9 p1 p2 x3 x4 x12 g13 k14 z19 x41 = some out → ∀ (H : Heap) (locs : List Loc) (ls : Array Slot), va_P E.1 vwCl (wX9 E a g13 tr) H → va_D A (wX9 E a g13 tr) → va_S A s.heap H locs → lv_has ls 15 [(0, .ref (a 0)), (1, .int p1), (3, .int (p2 &&& 1)), (5, .int (64 * p1)), (6, .int ((64 * p1) + 64)), (7, .int x3), (8, .int x4), (9, .int x5), (10, .int 0), (11, .int x12), (12, .int (g13 9 ((((64 * p1) + 32) + x12) : Int32).toNatClampNeg)), (13, .int z19)] → W p l e rm_X9_folds s m ([.ref (a 0), .int p1, .int p2] : List Value).toArray below meth c H locs 0 0 (MQ below (va_Qi (fun x (_ : Unit) => x = out.1) (fun _ t => QW E (wX9 E a out.2 tr) t) A) ([.ref (a 0), .int p1, .int p2] : List Value).toArray s 0 0 A) (F0 m 320 ls [.int x41, .int ((((64 * p1) + 64) + 32) + x12), .ref (a 9)]) := by
                  intro x41 hf H locs ls hP hD hS hl
                  refine lv_iload hx hb dX9_folds_320 (lv_at hl 11 rfl) ?_
                  refine lv_iadd hx hb dX9_folds_322 ?_
                  refine lv_iconst (v := 1) hx hb dX9_folds_323 (by decide) ?_
                  refine lv_isub hx hb dX9_folds_324 ?_
                  refine lv_iload hx hb dX9_folds_325 (lv_at hl 10 rfl) ?_
                  refine lv_isub hx hb dX9_folds_327 ?_
                  refine lv_goto (tgt := 345) hx hb dX9_folds_328 (by decide) ?_
                  exact J4 (((x41 + z19) - 1) - (g13 9 ((((64 * p1) + 32) + x12) : Int32).toNatClampNeg)) hf H locs ls hP hD hS (lv_sub hl [0, 1, 2, 3, 4, 5, 6, 7, 8, 9] rfl)
                refine lv_if_eq (tgt := 319) hx hb dX9_folds_311 (by decide) (fun c42 => ?_) (fun c42 => ?_)
                · have hf := (if_pos c42).symm.trans hf
                  refine lv_iconst (v := 0) hx hb dX9_folds_319 (by decide) ?_
                  exact J9 0 hf H locs ls hP hD hS (lv_sub hl [3, 4, 5, 6, 7, 8, 9, 10, 11, 12, 2, 1] rfl)
                · have hf := (if_neg c42).symm.trans hf
                  refine lv_iload hx hb dX9_folds_314 (lv_at hl 0 rfl) ?_
                  refine lv_goto (tgt := 320) hx hb dX9_folds_316 (by decide) ?_
                  exact J9 z20 hf H locs ls hP hD hS (lv_sub hl [3, 4, 5, 6, 7, 8, 9, 10, 11, 12, 2, 1] rfl))
          exact L15 1000 0 g6 hf H locs ls hP hD hS (lv_sub hl [2, 3, 5, 6, 7, 8, 9, 10, 1, 0] rfl)
        · have hf := (if_pos c7).symm.trans hf
          refine lv_iconst (v := 1) hx hb dX9_folds_229 (by decide) ?_
          refine lv_goto (tgt := 234) hx hb dX9_folds_230 (by decide) ?_
          refine lv_istore (lv' := [(10, .int 1), (0, .ref (a 0)), (1, .int p1), (2, .int p2), (3, .int (p2 &&& 1)), (5, .int (64 * p1)), (6, .int ((64 * p1) + 64)), (7, .int x3), (8, .int x4), (9, .int x5)]) hx hb dX9_folds_234 hl (by decide) rfl (fun ls hl => ?_)
          refine lv_iconst (v := 0) hx hb dX9_folds_236 (by decide) ?_
          refine lv_istore (lv' := [(11, .int 0), (10, .int 1), (0, .ref (a 0)), (1, .int p1), (2, .int p2), (3, .int (p2 &&& 1)), (5, .int (64 * p1)), (6, .int ((64 * p1) + 64)), (7, .int x3), (8, .int x4), (9, .int x5)]) hx hb dX9_folds_237 hl (by decide) rfl (fun ls hl => ?_)
          have J10 : ∀ (g43 : Sg), j_X9_folds_10 p1 p2 x4 x5 g43 = some out → ∀ (H : Heap) (locs : List Loc) (ls : Array Slot), va_P E.1 vwCl (wX9 E a g43 tr) H → va_D A (wX9 E a g43 tr) → va_S A s.heap H locs → lv_has ls 15 [(0, .ref (a 0)), (1, .int p1), (3, .int (p2 &&& 1)), (8, .int x4), (9, .int x5)] → W p l e rm_X9_folds s m ([.ref (a 0), .int p1, .int p2] : List Value).toArray below meth c H locs 0 0 (MQ below (va_Qi (fun x (_ : Unit) => x = out.1) (fun _ t => QW E (wX9 E a out.2 tr) t) A) ([.ref (a 0), .int p1, .int p2] : List Value).toArray s 0 0 A) (F0 m 471 ls []) := by
            intro g43 hf H locs ls hP hD hS hl
            refine lv_aload_n hx hb dX9_folds_471 rfl (lv_at hl 0 rfl) ?_
            refine r_get X hP 0 (wX9_g0_0 _ _ _ _) rfl inc_X9 16 (by decide) fl_X9_38 rfl dX9_folds_472 ?_
            refine lv_iconst (v := 2) hx hb dX9_folds_475 (by decide) ?_
            refine lv_iload_n hx hb dX9_folds_476 rfl (lv_at hl 1 rfl) ?_
            refine lv_imul hx hb dX9_folds_477 ?_
            refine lv_iconst (v := 2) hx hb dX9_folds_478 (by decide) ?_
            refine lv_iadd hx hb dX9_folds_479 ?_
            refine lv_iload_n hx hb dX9_folds_480 rfl (lv_at hl 2 rfl) ?_
            refine lv_iadd hx hb dX9_folds_481 ?_
            refine lv_iload hx hb dX9_folds_482 (lv_at hl 4 rfl) ?_
            refine lv_iload hx hb dX9_folds_484 (lv_at hl 3 rfl) ?_
            refine lv_isub hx hb dX9_folds_486 ?_
            refine lv_iconst (v := 1) hx hb dX9_folds_487 (by decide) ?_
            refine lv_iadd hx hb dX9_folds_488 ?_
            obtain ⟨h44, hf⟩ := chk_in hf
            refine r_iast X hP hD hS 10 (wX9_g0_10 _ _ _ _) h44 (wX9_t0_10 _ _ _ _ _ _) dX9_folds_489 (fun H locs hP hD hS => ?_)
            refine lv_aload_n hx hb dX9_folds_490 rfl (lv_at hl 0 rfl) ?_
            refine r_get X hP 0 (wX9_g0_0 _ _ _ _) rfl inc_X9 16 (by decide) fl_X9_38 rfl dX9_folds_491 ?_
            refine lv_iconst (v := 2) hx hb dX9_folds_494 (by decide) ?_
            refine lv_iload_n hx hb dX9_folds_495 rfl (lv_at hl 1 rfl) ?_
            refine lv_imul hx hb dX9_folds_496 ?_
            refine lv_iconst (v := 3) hx hb dX9_folds_497 (by decide) ?_
            refine lv_iadd hx hb dX9_folds_498 ?_
            refine lv_iload_n hx hb dX9_folds_499 rfl (lv_at hl 2 rfl) ?_
            refine lv_isub hx hb dX9_folds_500 ?_
            refine lv_aload_n hx hb dX9_folds_501 rfl (lv_at hl 0 rfl) ?_
            refine r_get X hP 0 (wX9_g0_0 _ _ _ _) rfl inc_X9 16 (by decide) fl_X9_38 rfl dX9_folds_502 ?_
            refine lv_iconst (v := 2) hx hb dX9_folds_505 (by decide) ?_
            refine lv_iload_n hx hb dX9_folds_506 rfl (lv_at hl 1 rfl) ?_
            refine lv_imul hx hb dX9_folds_507 ?_
            refine lv_iconst (v := 1) hx hb dX9_folds_508 (by decide) ?_
            refine lv_iadd hx hb dX9_folds_509 ?_
            refine lv_iload_n hx hb dX9_folds_510 rfl (lv_at hl 2 rfl) ?_
            refine lv_isub hx hb dX9_folds_511 ?_
            obtain ⟨h45, hf⟩ := chk_in hf
            refine r_iald X hP 10 (wX9_g0_10 _ _ _ _) h45 dX9_folds_512 ?_
            obtain ⟨h46, hf⟩ := chk_in hf
            refine r_iast X hP hD hS 10 (wX9_g0_10 _ _ _ _) h46 (wX9_t0_10 _ _ _ _ _ _) dX9_folds_513 (fun H locs hP hD hS => ?_)
            refine lv_iconst (v := 1) hx hb dX9_folds_514 (by decide) ?_
            have ho := Option.some.inj hf
            have hv : 1 = out.1 := by rw [← ho]
            have hw := congrArg (fun o : Int32 × Sg => (wX9 E a o.2 tr)) ho
            exact r_zret X hr hP hS rfl hv hw dX9_folds_515
          have L50 := lc2_ind (o := out) (step := (s_X9_folds_239q tr p1 p2 x3 x4 (j_X9_folds_10 p1 p2 x4 x5))) (fun x47 g48 => ∀ (H : Heap) (locs : List Loc) (ls : Array Slot), va_P E.1 vwCl (wX9 E a g48 tr) H → va_D A (wX9 E a g48 tr) → va_S A s.heap H locs → lv_has ls 15 [(0, .ref (a 0)), (1, .int p1), (3, .int (p2 &&& 1)), (5, .int (64 * p1)), (6, .int ((64 * p1) + 64)), (7, .int x3), (8, .int x4), (9, .int x5), (10, .int 1), (11, .int x47)] → W p l e rm_X9_folds s m ([.ref (a 0), .int p1, .int p2] : List Value).toArray below meth c H locs 0 0 (MQ below (va_Qi (fun x (_ : Unit) => x = out.1) (fun _ t => QW E (wX9 E a out.2 tr) t) A) ([.ref (a 0), .int p1, .int p2] : List Value).toArray s 0 0 A) (F0 m 239 ls [])) (fun x47 g48 k49 ih50 hf H locs ls hP hD hS hl => by
            refine lv_iload hx hb dX9_folds_239 (lv_at hl 9 rfl) ?_
            refine lv_aload_n hx hb dX9_folds_241 rfl (lv_at hl 0 rfl) ?_
            obtain ⟨z51, hz51, hf⟩ := obd hf
            refine cV_allI X (As := []) (rest := [.int x47]) (c_X9_cells l E a g48 tr hz51) pv_X9_cells ml_X9_51 ⟨rfl, rfl⟩ ⟨(Nat.le_of_ble_eq_true rfl), (Nat.le_of_ble_eq_true rfl)⟩ hP hD hS (wX9_g0_0 _ _ _ _) rfl (wX9_adr _ _ _ _ _ _) rfl hl.1 rfl (Nat.le_of_ble_eq_true rfl) dX9_folds_242 ⟨Nat.le_refl _, Nat.le_refl _⟩ (fun H locs hP hD hS => ?_)
            refine lv_icmp_ge (tgt := 471) hx hb dX9_folds_245 (by decide) (fun c52 => ?_) (fun c52 => ?_)
            · have hf := (if_pos c52).symm.trans hf
              exact J10 g48 hf H locs ls hP hD hS (lv_sub hl [0, 1, 2, 6, 7] rfl)
            · have hf := (if_neg c52).symm.trans hf
              refine lv_aload_n hx hb dX9_folds_248 rfl (lv_at hl 0 rfl) ?_
              refine r_get X hP 0 (wX9_g0_0 _ _ _ _) rfl inc_X9 15 (by decide) fl_X9_35 rfl dX9_folds_249 ?_
              refine lv_iload hx hb dX9_folds_252 (lv_at hl 3 rfl) ?_
              refine lv_bipush (v := 32) hx hb dX9_folds_254 (by decide) ?_
              refine lv_iadd hx hb dX9_folds_256 ?_
              refine lv_iload hx hb dX9_folds_257 (lv_at hl 9 rfl) ?_
              refine lv_iadd hx hb dX9_folds_259 ?_
              obtain ⟨h53, hf⟩ := chk_in hf
              refine r_iald X hP 9 (wX9_g0_9 _ _ _ _) h53 dX9_folds_260 ?_
              refine lv_istore (lv' := [(12, .int (g48 9 ((((64 * p1) + 32) + x47) : Int32).toNatClampNeg)), (0, .ref (a 0)), (1, .int p1), (3, .int (p2 &&& 1)), (5, .int (64 * p1)), (6, .int ((64 * p1) + 64)), (7, .int x3), (8, .int x4), (9, .int x5), (10, .int 1), (11, .int x47)]) hx hb dX9_folds_261 hl (by decide) rfl (fun ls hl => ?_)
              refine lv_aload_n hx hb dX9_folds_263 rfl (lv_at hl 1 rfl) ?_
              refine lv_iload hx hb dX9_folds_264 (lv_at hl 4 rfl) ?_
              refine lv_iload_n hx hb dX9_folds_266 rfl (lv_at hl 3 rfl) ?_
              refine lv_iload hx hb dX9_folds_267 (lv_at hl 10 rfl) ?_
              refine lv_iconst (v := 1) hx hb dX9_folds_269 (by decide) ?_
              obtain ⟨z54, hz54, hf⟩ := obd hf
              refine cV_allI X (As := [.int (64 * p1), .int (p2 &&& 1), .int x47, .int 1]) (rest := []) (c_X9_manyAt l E a g48 tr (64 * p1) (p2 &&& 1) x47 1 hz54) pv_X9_manyAt ml_X9_129 ⟨rfl, rfl⟩ ⟨(Nat.le_of_ble_eq_true rfl), (Nat.le_of_ble_eq_true rfl)⟩ hP hD hS (wX9_g0_0 _ _ _ _) rfl (wX9_adr _ _ _ _ _ _) rfl hl.1 rfl (Nat.le_of_ble_eq_true rfl) dX9_folds_270 ⟨Nat.le_refl _, Nat.le_refl _⟩ (fun H locs hP hD hS => ?_)
              refine lv_istore (lv' := [(13, .int z54), (12, .int (g48 9 ((((64 * p1) + 32) + x47) : Int32).toNatClampNeg)), (0, .ref (a 0)), (1, .int p1), (3, .int (p2 &&& 1)), (5, .int (64 * p1)), (6, .int ((64 * p1) + 64)), (7, .int x3), (8, .int x4), (9, .int x5), (10, .int 1), (11, .int x47)]) hx hb dX9_folds_273 hl (by decide) rfl (fun ls hl => ?_)
              refine lv_aload_n hx hb dX9_folds_275 rfl (lv_at hl 2 rfl) ?_
              refine lv_iload hx hb dX9_folds_276 (lv_at hl 5 rfl) ?_
              refine lv_iload_n hx hb dX9_folds_278 rfl (lv_at hl 4 rfl) ?_
              refine lv_iload hx hb dX9_folds_279 (lv_at hl 11 rfl) ?_
              refine lv_iconst (v := 0) hx hb dX9_folds_281 (by decide) ?_
              obtain ⟨z55, hz55, hf⟩ := obd hf
              refine cV_allI X (As := [.int (64 * p1), .int (p2 &&& 1), .int x47, .int 0]) (rest := []) (c_X9_manyAt l E a g48 tr (64 * p1) (p2 &&& 1) x47 0 hz55) pv_X9_manyAt ml_X9_129 ⟨rfl, rfl⟩ ⟨(Nat.le_of_ble_eq_true rfl), (Nat.le_of_ble_eq_true rfl)⟩ hP hD hS (wX9_g0_0 _ _ _ _) rfl (wX9_adr _ _ _ _ _ _) rfl hl.1 rfl (Nat.le_of_ble_eq_true rfl) dX9_folds_282 ⟨Nat.le_refl _, Nat.le_refl _⟩ (fun H locs hP hD hS => ?_)
              refine lv_istore (lv' := [(14, .int z55), (13, .int z54), (12, .int (g48 9 ((((64 * p1) + 32) + x47) : Int32).toNatClampNeg)), (0, .ref (a 0)), (1, .int p1), (3, .int (p2 &&& 1)), (5, .int (64 * p1)), (6, .int ((64 * p1) + 64)), (7, .int x3), (8, .int x4), (9, .int x5), (10, .int 1), (11, .int x47)]) hx hb dX9_folds_285 hl (by decide) rfl (fun ls hl => ?_)
              refine lv_aload_n hx hb dX9_folds_287 rfl (lv_at hl 3 rfl) ?_
              refine r_get X hP 0 (wX9_g0_0 _ _ _ _) rfl inc_X9 15 (by decide) fl_X9_35 rfl dX9_folds_288 ?_
              refine lv_iload hx hb dX9_folds_291 (lv_at hl 7 rfl) ?_
              refine lv_bipush (v := 32) hx hb dX9_folds_293 (by decide) ?_
              refine lv_iadd hx hb dX9_folds_295 ?_
              refine lv_iload hx hb dX9_folds_296 (lv_at hl 12 rfl) ?_
              refine lv_iadd hx hb dX9_folds_298 ?_
              refine lv_aload_n hx hb dX9_folds_299 rfl (lv_at hl 3 rfl) ?_
              refine r_get X hP 0 (wX9_g0_0 _ _ _ _) rfl inc_X9 17 (by decide) fl_X9_41 rfl dX9_folds_300 ?_
              refine lv_iload hx hb dX9_folds_303 (lv_at hl 12 rfl) ?_
              obtain ⟨h56, hf⟩ := chk_in hf
              refine r_zald X hP 11 (wX9_g0_11 _ _ _ _) h56 dX9_folds_305 ?_
              have J11 : ∀ (x57 : Int32), j_X9_folds_11 p1 p2 x3 x4 x47 g48 k49 x57 = some out → ∀ (H : Heap) (locs : List Loc) (ls : Array Slot), va_P E.1 vwCl (wX9 E a g48 tr) H → va_D A (wX9 E a g48 tr) → va_S A s.heap H locs → lv_has ls 15 [(0, .ref (a 0)), (1, .int p1), (3, .int (p2 &&& 1)), (5, .int (64 * p1)), (6, .int ((64 * p1) + 64)), (7, .int x3), (8, .int x4), (9, .int x5), (10, .int 1), (11, .int x47)] → W p l e rm_X9_folds s m ([.ref (a 0), .int p1, .int p2] : List Value).toArray below meth c H locs 0 0 (MQ below (va_Qi (fun x (_ : Unit) => x = out.1) (fun _ t => QW E (wX9 E a out.2 tr) t) A) ([.ref (a 0), .int p1, .int p2] : List Value).toArray s 0 0 A) (F0 m 345 ls [.int x57, .int ((((64 * p1) + 64) + 32) + x47), .ref (a 9)]) := by
                intro x57 hf H locs ls hP hD hS hl
                obtain ⟨h58, hf⟩ := chk_in hf
                refine r_iast X hP hD hS 9 (wX9_g0_9 _ _ _ _) h58 (wX9_t0_9 _ _ _ _ _ _) dX9_folds_345 (fun H locs hP hD hS => ?_)
                refine lv_aload_n hx hb dX9_folds_346 rfl (lv_at hl 0 rfl) ?_
                refine r_get X hP 0 (wX9_g0_0 _ _ _ _) rfl inc_X9 15 (by decide) fl_X9_35 rfl dX9_folds_347 ?_
                refine lv_iload hx hb dX9_folds_350 (lv_at hl 4 rfl) ?_
                refine lv_bipush (v := 48) hx hb dX9_folds_352 (by decide) ?_
                refine lv_iadd hx hb dX9_folds_354 ?_
                refine lv_iload hx hb dX9_folds_355 (lv_at hl 9 rfl) ?_
                refine lv_iadd hx hb dX9_folds_357 ?_
                refine lv_aload_n hx hb dX9_folds_358 rfl (lv_at hl 0 rfl) ?_
                refine r_get X hP 0 (wX9_g0_0 _ _ _ _) rfl inc_X9 17 (by decide) fl_X9_41 rfl dX9_folds_359 ?_
                refine lv_iload hx hb dX9_folds_362 (lv_at hl 9 rfl) ?_
                obtain ⟨h59, hf⟩ := chk_in hf
                refine r_zald X hP 11 (wX9_g0_11 _ _ _ _) h59 dX9_folds_364 ?_
                have J12 : ∀ (x60 : Int32), j_X9_folds_12 p1 p2 x3 x4 x47 g48 k49 x57 x60 = some out → ∀ (H : Heap) (locs : List Loc) (ls : Array Slot), va_P E.1 vwCl (wX9 E a (sg_st g48 9 (((((64 * p1) + 64) + 32) + x47) : Int32).toNatClampNeg x57) tr) H → va_D A (wX9 E a (sg_st g48 9 (((((64 * p1) + 64) + 32) + x47) : Int32).toNatClampNeg x57) tr) → va_S A s.heap H locs → lv_has ls 15 [(0, .ref (a 0)), (1, .int p1), (3, .int (p2 &&& 1)), (5, .int (64 * p1)), (6, .int ((64 * p1) + 64)), (7, .int x3), (8, .int x4), (9, .int x5), (10, .int 1), (11, .int x47)] → W p l e rm_X9_folds s m ([.ref (a 0), .int p1, .int p2] : List Value).toArray below meth c H locs 0 0 (MQ below (va_Qi (fun x (_ : Unit) => x = out.1) (fun _ t => QW E (wX9 E a out.2 tr) t) A) ([.ref (a 0), .int p1, .int p2] : List Value).toArray s 0 0 A) (F0 m 399 ls [.int x60, .int ((((64 * p1) + 64) + 48) + x47), .ref (a 9)]) := by
                  intro x60 hf H locs ls hP hD hS hl
                  obtain ⟨h61, hf⟩ := chk_in hf
                  refine r_iast X hP hD hS 9 (wX9_g0_9 _ _ _ _) h61 (wX9_t0_9 _ _ _ _ _ _) dX9_folds_399 (fun H locs hP hD hS => ?_)
                  refine lv_aload_n hx hb dX9_folds_400 rfl (lv_at hl 0 rfl) ?_
                  refine r_get X hP 0 (wX9_g0_0 _ _ _ _) rfl inc_X9 15 (by decide) fl_X9_35 rfl dX9_folds_401 ?_
                  refine lv_iload hx hb dX9_folds_404 (lv_at hl 4 rfl) ?_
                  refine lv_iload_n hx hb dX9_folds_406 rfl (lv_at hl 2 rfl) ?_
                  have J13 : ∀ (x62 : Int32), j_X9_folds_13 p1 p2 x3 x4 x47 g48 k49 x57 x60 x62 = some out → ∀ (H : Heap) (locs : List Loc) (ls : Array Slot), va_P E.1 vwCl (wX9 E a (sg_st (sg_st g48 9 (((((64 * p1) + 64) + 32) + x47) : Int32).toNatClampNeg x57) 9 (((((64 * p1) + 64) + 48) + x47) : Int32).toNatClampNeg x60) tr) H → va_D A (wX9 E a (sg_st (sg_st g48 9 (((((64 * p1) + 64) + 32) + x47) : Int32).toNatClampNeg x57) 9 (((((64 * p1) + 64) + 48) + x47) : Int32).toNatClampNeg x60) tr) → va_S A s.heap H locs → lv_has ls 15 [(0, .ref (a 0)), (1, .int p1), (3, .int (p2 &&& 1)), (5, .int (64 * p1)), (6, .int ((64 * p1) + 64)), (7, .int x3), (8, .int x4), (9, .int x5), (10, .int 1), (11, .int x47)] → W p l e rm_X9_folds s m ([.ref (a 0), .int p1, .int p2] : List Value).toArray below meth c H locs 0 0 (MQ below (va_Qi (fun x (_ : Unit) => x = out.1) (fun _ t => QW E (wX9 E a out.2 tr) t) A) ([.ref (a 0), .int p1, .int p2] : List Value).toArray s 0 0 A) (F0 m 416 ls [.int x62, .int ((64 * p1) + 64), .ref (a 9)]) := by
                    intro x62 hf H locs ls hP hD hS hl
                    refine lv_iadd hx hb dX9_folds_416 ?_
                    refine lv_iload hx hb dX9_folds_417 (lv_at hl 9 rfl) ?_
                    refine lv_iadd hx hb dX9_folds_419 ?_
                    refine lv_aload_n hx hb dX9_folds_420 rfl (lv_at hl 0 rfl) ?_
                    refine r_get X hP 0 (wX9_g0_0 _ _ _ _) rfl inc_X9 15 (by decide) fl_X9_35 rfl dX9_folds_421 ?_
                    refine lv_iload hx hb dX9_folds_424 (lv_at hl 3 rfl) ?_
                    refine lv_iload_n hx hb dX9_folds_426 rfl (lv_at hl 2 rfl) ?_
                    have J14 : ∀ (x63 : Int32), j_X9_folds_14 p1 x3 x4 x47 g48 k49 x57 x60 x62 x63 = some out → ∀ (H : Heap) (locs : List Loc) (ls : Array Slot), va_P E.1 vwCl (wX9 E a (sg_st (sg_st g48 9 (((((64 * p1) + 64) + 32) + x47) : Int32).toNatClampNeg x57) 9 (((((64 * p1) + 64) + 48) + x47) : Int32).toNatClampNeg x60) tr) H → va_D A (wX9 E a (sg_st (sg_st g48 9 (((((64 * p1) + 64) + 32) + x47) : Int32).toNatClampNeg x57) 9 (((((64 * p1) + 64) + 48) + x47) : Int32).toNatClampNeg x60) tr) → va_S A s.heap H locs → lv_has ls 15 [(0, .ref (a 0)), (1, .int p1), (3, .int (p2 &&& 1)), (5, .int (64 * p1)), (6, .int ((64 * p1) + 64)), (7, .int x3), (8, .int x4), (9, .int x5), (10, .int 1), (11, .int x47)] → W p l e rm_X9_folds s m ([.ref (a 0), .int p1, .int p2] : List Value).toArray below meth c H locs 0 0 (MQ below (va_Qi (fun x (_ : Unit) => x = out.1) (fun _ t => QW E (wX9 E a out.2 tr) t) A) ([.ref (a 0), .int p1, .int p2] : List Value).toArray s 0 0 A) (F0 m 436 ls [.int x63, .int (64 * p1), .ref (a 9), .int ((((64 * p1) + 64) + x62) + x47), .ref (a 9)]) := by
                      intro x63 hf H locs ls hP hD hS hl
                      refine lv_iadd hx hb dX9_folds_436 ?_
                      refine lv_iload hx hb dX9_folds_437 (lv_at hl 9 rfl) ?_
                      refine lv_iadd hx hb dX9_folds_439 ?_
                      obtain ⟨h64, hf⟩ := chk_in hf
                      refine r_iald X hP 9 (wX9_g0_9 _ _ _ _) h64 dX9_folds_440 ?_
                      obtain ⟨h65, hf⟩ := chk_in hf
                      refine r_iast X hP hD hS 9 (wX9_g0_9 _ _ _ _) h65 (wX9_t0_9 _ _ _ _ _ _) dX9_folds_441 (fun H locs hP hD hS => ?_)
                      refine lv_aload_n hx hb dX9_folds_442 rfl (lv_at hl 0 rfl) ?_
                      refine r_get X hP 0 (wX9_g0_0 _ _ _ _) rfl inc_X9 15 (by decide) fl_X9_35 rfl dX9_folds_443 ?_
                      refine lv_iload hx hb dX9_folds_446 (lv_at hl 4 rfl) ?_
                      refine lv_iload hx hb dX9_folds_448 (lv_at hl 5 rfl) ?_
                      refine lv_iadd hx hb dX9_folds_450 ?_
                      refine lv_iload hx hb dX9_folds_451 (lv_at hl 9 rfl) ?_
                      refine lv_iadd hx hb dX9_folds_453 ?_
                      refine lv_aload_n hx hb dX9_folds_454 rfl (lv_at hl 0 rfl) ?_
                      refine r_get X hP 0 (wX9_g0_0 _ _ _ _) rfl inc_X9 18 (by decide) fl_X9_44 rfl dX9_folds_455 ?_
                      refine lv_iload hx hb dX9_folds_458 (lv_at hl 9 rfl) ?_
                      obtain ⟨h66, hf⟩ := chk_in hf
                      refine r_iald X hP 12 (wX9_g0_12 _ _ _ _) h66 dX9_folds_460 ?_
                      refine lv_iload hx hb dX9_folds_461 (lv_at hl 6 rfl) ?_
                      refine lv_isub hx hb dX9_folds_463 ?_
                      obtain ⟨h67, hf⟩ := chk_in hf
                      refine r_iast X hP hD hS 9 (wX9_g0_9 _ _ _ _) h67 (wX9_t0_9 _ _ _ _ _ _) dX9_folds_464 (fun H locs hP hD hS => ?_)
                      refine lv_iinc (v := (x47 + 1)) (lv' := [(11, .int (x47 + 1)), (0, .ref (a 0)), (1, .int p1), (3, .int (p2 &&& 1)), (5, .int (64 * p1)), (6, .int ((64 * p1) + 64)), (7, .int x3), (8, .int x4), (9, .int x5), (10, .int 1)]) hx hb dX9_folds_465 hl (k := 9) rfl rfl (by decide) rfl (fun ls hl => ?_)
                      refine lv_goto (tgt := 239) hx hb dX9_folds_468 (by decide) ?_
                      exact ih50 (x47 + 1) (sg_st (sg_st (sg_st (sg_st g48 9 (((((64 * p1) + 64) + 32) + x47) : Int32).toNatClampNeg x57) 9 (((((64 * p1) + 64) + 48) + x47) : Int32).toNatClampNeg x60) 9 (((((64 * p1) + 64) + x62) + x47) : Int32).toNatClampNeg ((sg_st (sg_st g48 9 (((((64 * p1) + 64) + 32) + x47) : Int32).toNatClampNeg x57) 9 (((((64 * p1) + 64) + 48) + x47) : Int32).toNatClampNeg x60) 9 ((((64 * p1) + x63) + x47) : Int32).toNatClampNeg)) 9 (((((64 * p1) + 64) + x3) + x47) : Int32).toNatClampNeg (((sg_st (sg_st (sg_st g48 9 (((((64 * p1) + 64) + 32) + x47) : Int32).toNatClampNeg x57) 9 (((((64 * p1) + 64) + 48) + x47) : Int32).toNatClampNeg x60) 9 (((((64 * p1) + 64) + x62) + x47) : Int32).toNatClampNeg ((sg_st (sg_st g48 9 (((((64 * p1) + 64) + 32) + x47) : Int32).toNatClampNeg x57) 9 (((((64 * p1) + 64) + 48) + x47) : Int32).toNatClampNeg x60) 9 ((((64 * p1) + x63) + x47) : Int32).toNatClampNeg)) 12 (x47 : Int32).toNatClampNeg) - x4)) hf H locs ls hP hD hS (lv_sub hl [1, 2, 3, 4, 5, 6, 7, 8, 9, 0] rfl)
                    refine lv_if_ne (tgt := 435) hx hb dX9_folds_427 (by decide) (fun c68 => ?_) (fun c68 => ?_)
                    · have hf := (if_neg c68).symm.trans hf
                      refine lv_iconst (v := 0) hx hb dX9_folds_435 (by decide) ?_
                      exact J14 0 hf H locs ls hP hD hS (lv_sub hl [0, 1, 2, 3, 4, 5, 6, 7, 8, 9] rfl)
                    · have hf := (if_pos c68).symm.trans hf
                      refine lv_bipush (v := 16) hx hb dX9_folds_430 (by decide) ?_
                      refine lv_goto (tgt := 436) hx hb dX9_folds_432 (by decide) ?_
                      exact J14 16 hf H locs ls hP hD hS (lv_sub hl [0, 1, 2, 3, 4, 5, 6, 7, 8, 9] rfl)
                  refine lv_if_ne (tgt := 415) hx hb dX9_folds_407 (by decide) (fun c69 => ?_) (fun c69 => ?_)
                  · have hf := (if_neg c69).symm.trans hf
                    refine lv_iconst (v := 0) hx hb dX9_folds_415 (by decide) ?_
                    exact J13 0 hf H locs ls hP hD hS (lv_sub hl [0, 1, 2, 3, 4, 5, 6, 7, 8, 9] rfl)
                  · have hf := (if_pos c69).symm.trans hf
                    refine lv_bipush (v := 16) hx hb dX9_folds_410 (by decide) ?_
                    refine lv_goto (tgt := 416) hx hb dX9_folds_412 (by decide) ?_
                    exact J13 16 hf H locs ls hP hD hS (lv_sub hl [0, 1, 2, 3, 4, 5, 6, 7, 8, 9] rfl)
                refine lv_if_eq (tgt := 386) hx hb dX9_folds_365 (by decide) (fun c70 => ?_) (fun c70 => ?_)
                · have hf := (if_pos c70).symm.trans hf
                  refine lv_aload_n hx hb dX9_folds_386 rfl (lv_at hl 0 rfl) ?_
                  refine r_get X hP 0 (wX9_g0_0 _ _ _ _) rfl inc_X9 15 (by decide) fl_X9_35 rfl dX9_folds_387 ?_
                  refine lv_iload hx hb dX9_folds_390 (lv_at hl 3 rfl) ?_
                  refine lv_bipush (v := 48) hx hb dX9_folds_392 (by decide) ?_
                  refine lv_iadd hx hb dX9_folds_394 ?_
                  refine lv_iload hx hb dX9_folds_395 (lv_at hl 9 rfl) ?_
                  refine lv_iadd hx hb dX9_folds_397 ?_
                  obtain ⟨h71, hf⟩ := chk_in hf
                  refine r_iald X hP 9 (wX9_g0_9 _ _ _ _) h71 dX9_folds_398 ?_
                  exact J12 ((sg_st g48 9 (((((64 * p1) + 64) + 32) + x47) : Int32).toNatClampNeg x57) 9 ((((64 * p1) + 48) + x47) : Int32).toNatClampNeg) hf H locs ls hP hD hS (lv_sub hl [0, 1, 2, 3, 4, 5, 6, 7, 8, 9] rfl)
                · have hf := (if_neg c70).symm.trans hf
                  refine lv_iconst (v := 1) hx hb dX9_folds_368 (by decide) ?_
                  refine lv_aload_n hx hb dX9_folds_369 rfl (lv_at hl 0 rfl) ?_
                  refine r_get X hP 0 (wX9_g0_0 _ _ _ _) rfl inc_X9 15 (by decide) fl_X9_35 rfl dX9_folds_370 ?_
                  refine lv_iload hx hb dX9_folds_373 (lv_at hl 3 rfl) ?_
                  refine lv_bipush (v := 48) hx hb dX9_folds_375 (by decide) ?_
                  refine lv_iadd hx hb dX9_folds_377 ?_
                  refine lv_iload hx hb dX9_folds_378 (lv_at hl 9 rfl) ?_
                  refine lv_iadd hx hb dX9_folds_380 ?_
                  obtain ⟨h72, hf⟩ := chk_in hf
                  refine r_iald X hP 9 (wX9_g0_9 _ _ _ _) h72 dX9_folds_381 ?_
                  refine lv_isub hx hb dX9_folds_382 ?_
                  refine lv_goto (tgt := 399) hx hb dX9_folds_383 (by decide) ?_
                  exact J12 (1 - ((sg_st g48 9 (((((64 * p1) + 64) + 32) + x47) : Int32).toNatClampNeg x57) 9 ((((64 * p1) + 48) + x47) : Int32).toNatClampNeg)) hf H locs ls hP hD hS (lv_sub hl [0, 1, 2, 3, 4, 5, 6, 7, 8, 9] rfl)
              refine lv_if_eq (tgt := 331) hx hb dX9_folds_306 (by decide) (fun c73 => ?_) (fun c73 => ?_)
              · have hf := (if_pos c73).symm.trans hf
                refine lv_iload hx hb dX9_folds_331 (lv_at hl 2 rfl) ?_
                refine lv_iload hx hb dX9_folds_333 (lv_at hl 11 rfl) ?_
                have J15 : ∀ (x74 : Int32), j_X9_folds_15 p1 p2 x3 x4 x47 g48 k49 x74 = some out → ∀ (H : Heap) (locs : List Loc) (ls : Array Slot), va_P E.1 vwCl (wX9 E a g48 tr) H → va_D A (wX9 E a g48 tr) → va_S A s.heap H locs → lv_has ls 15 [(0, .ref (a 0)), (1, .int p1), (3, .int (p2 &&& 1)), (5, .int (64 * p1)), (6, .int ((64 * p1) + 64)), (7, .int x3), (8, .int x4), (9, .int x5), (10, .int 1), (11, .int x47)] → W p l e rm_X9_folds s m ([.ref (a 0), .int p1, .int p2] : List Value).toArray below meth c H locs 0 0 (MQ below (va_Qi (fun x (_ : Unit) => x = out.1) (fun _ t => QW E (wX9 E a out.2 tr) t) A) ([.ref (a 0), .int p1, .int p2] : List Value).toArray s 0 0 A) (F0 m 344 ls [.int x74, .int (g48 9 ((((64 * p1) + 32) + x47) : Int32).toNatClampNeg), .int ((((64 * p1) + 64) + 32) + x47), .ref (a 9)]) := by
                  intro x74 hf H locs ls hP hD hS hl
                  refine lv_iadd hx hb dX9_folds_344 ?_
                  exact J11 ((g48 9 ((((64 * p1) + 32) + x47) : Int32).toNatClampNeg) + x74) hf H locs ls hP hD hS (lv_sub hl [0, 1, 2, 3, 4, 5, 6, 7, 8, 9] rfl)
                refine lv_if_eq (tgt := 342) hx hb dX9_folds_335 (by decide) (fun c75 => ?_) (fun c75 => ?_)
                · have hf := (if_pos c75).symm.trans hf
                  refine lv_iload hx hb dX9_folds_342 (lv_at hl 1 rfl) ?_
                  exact J15 z54 hf H locs ls hP hD hS (lv_sub hl [3, 4, 5, 6, 7, 8, 9, 10, 11, 12] rfl)
                · have hf := (if_neg c75).symm.trans hf
                  refine lv_iconst (v := 0) hx hb dX9_folds_338 (by decide) ?_
                  refine lv_goto (tgt := 344) hx hb dX9_folds_339 (by decide) ?_
                  exact J15 0 hf H locs ls hP hD hS (lv_sub hl [3, 4, 5, 6, 7, 8, 9, 10, 11, 12] rfl)
              · have hf := (if_neg c73).symm.trans hf
                refine lv_iload hx hb dX9_folds_309 (lv_at hl 11 rfl) ?_
                have J16 : ∀ (x76 : Int32), j_X9_folds_16 p1 p2 x3 x4 x47 g48 k49 z54 x76 = some out → ∀ (H : Heap) (locs : List Loc) (ls : Array Slot), va_P E.1 vwCl (wX9 E a g48 tr) H → va_D A (wX9 E a g48 tr) → va_S A s.heap H locs → lv_has ls 15 [(0, .ref (a 0)), (1, .int p1), (3, .int (p2 &&& 1)), (5, .int (64 * p1)), (6, .int ((64 * p1) + 64)), (7, .int x3), (8, .int x4), (9, .int x5), (10, .int 1), (11, .int x47), (12, .int (g48 9 ((((64 * p1) + 32) + x47) : Int32).toNatClampNeg)), (13, .int z54)] → W p l e rm_X9_folds s m ([.ref (a 0), .int p1, .int p2] : List Value).toArray below meth c H locs 0 0 (MQ below (va_Qi (fun x (_ : Unit) => x = out.1) (fun _ t => QW E (wX9 E a out.2 tr) t) A) ([.ref (a 0), .int p1, .int p2] : List Value).toArray s 0 0 A) (F0 m 320 ls [.int x76, .int ((((64 * p1) + 64) + 32) + x47), .ref (a 9)]) := by
                  intro x76 hf H locs ls hP hD hS hl
                  refine lv_iload hx hb dX9_folds_320 (lv_at hl 11 rfl) ?_
                  refine lv_iadd hx hb dX9_folds_322 ?_
                  refine lv_iconst (v := 1) hx hb dX9_folds_323 (by decide) ?_
                  refine lv_isub hx hb dX9_folds_324 ?_
                  refine lv_iload hx hb dX9_folds_325 (lv_at hl 10 rfl) ?_
                  refine lv_isub hx hb dX9_folds_327 ?_
                  refine lv_goto (tgt := 345) hx hb dX9_folds_328 (by decide) ?_
                  exact J11 (((x76 + z54) - 1) - (g48 9 ((((64 * p1) + 32) + x47) : Int32).toNatClampNeg)) hf H locs ls hP hD hS (lv_sub hl [0, 1, 2, 3, 4, 5, 6, 7, 8, 9] rfl)
                refine lv_if_eq (tgt := 319) hx hb dX9_folds_311 (by decide) (fun c77 => ?_) (fun c77 => ?_)
                · have hf := (if_pos c77).symm.trans hf
                  refine lv_iconst (v := 0) hx hb dX9_folds_319 (by decide) ?_
                  exact J16 0 hf H locs ls hP hD hS (lv_sub hl [3, 4, 5, 6, 7, 8, 9, 10, 11, 12, 2, 1] rfl)
                · have hf := (if_neg c77).symm.trans hf
                  refine lv_iload hx hb dX9_folds_314 (lv_at hl 0 rfl) ?_
                  refine lv_goto (tgt := 320) hx hb dX9_folds_316 (by decide) ?_
                  exact J16 z55 hf H locs ls hP hD hS (lv_sub hl [3, 4, 5, 6, 7, 8, 9, 10, 11, 12, 2, 1] rfl))
          exact L50 1000 0 g6 hf H locs ls hP hD hS (lv_sub hl [2, 3, 5, 6, 7, 8, 9, 10, 1, 0] rfl)
      have L83 := lc4_ind (o := out) (step := (s_X9_folds_65 tr p1 p2 x3 (j_X9_folds_2 tr p1 p2 x3))) (fun x78 x79 x80 g81 => ∀ (H : Heap) (locs : List Loc) (ls : Array Slot), va_P E.1 vwCl (wX9 E a g81 tr) H → va_D A (wX9 E a g81 tr) → va_S A s.heap H locs → lv_has ls 15 [(0, .ref (a 0)), (1, .int p1), (2, .int p2), (3, .int (p2 &&& 1)), (4, .int ((p2 / 8) + 1)), (5, .int (64 * p1)), (6, .int ((64 * p1) + 64)), (7, .int x3), (8, .int x78), (9, .int x79), (10, .int x80)] → W p l e rm_X9_folds s m ([.ref (a 0), .int p1, .int p2] : List Value).toArray below meth c H locs 0 0 (MQ below (va_Qi (fun x (_ : Unit) => x = out.1) (fun _ t => QW E (wX9 E a out.2 tr) t) A) ([.ref (a 0), .int p1, .int p2] : List Value).toArray s 0 0 A) (F0 m 65 ls [])) (fun x78 x79 x80 g81 k82 ih83 hf H locs ls hP hD hS hl => by
        refine lv_iload hx hb dX9_folds_65 (lv_at hl 10 rfl) ?_
        refine lv_aload_n hx hb dX9_folds_67 rfl (lv_at hl 0 rfl) ?_
        obtain ⟨z84, hz84, hf⟩ := obd hf
        refine cV_allI X (As := []) (rest := [.int x80]) (c_X9_cells l E a g81 tr hz84) pv_X9_cells ml_X9_51 ⟨rfl, rfl⟩ ⟨(Nat.le_of_ble_eq_true rfl), (Nat.le_of_ble_eq_true rfl)⟩ hP hD hS (wX9_g0_0 _ _ _ _) rfl (wX9_adr _ _ _ _ _ _) rfl hl.1 rfl (Nat.le_of_ble_eq_true rfl) dX9_folds_68 ⟨Nat.le_refl _, Nat.le_refl _⟩ (fun H locs hP hD hS => ?_)
        refine lv_icmp_ge (tgt := 220) hx hb dX9_folds_71 (by decide) (fun c85 => ?_) (fun c85 => ?_)
        · have hf := (if_pos c85).symm.trans hf
          exact J2 x78 x79 g81 hf H locs ls hP hD hS (lv_sub hl [0, 1, 2, 3, 5, 6, 7, 8, 9] rfl)
        · have hf := (if_neg c85).symm.trans hf
          refine lv_aload_n hx hb dX9_folds_74 rfl (lv_at hl 0 rfl) ?_
          refine r_get X hP 0 (wX9_g0_0 _ _ _ _) rfl inc_X9 15 (by decide) fl_X9_35 rfl dX9_folds_75 ?_
          refine lv_iload hx hb dX9_folds_78 (lv_at hl 5 rfl) ?_
          refine lv_iload hx hb dX9_folds_80 (lv_at hl 7 rfl) ?_
          refine lv_iadd hx hb dX9_folds_82 ?_
          refine lv_iload hx hb dX9_folds_83 (lv_at hl 10 rfl) ?_
          refine lv_iadd hx hb dX9_folds_85 ?_
          obtain ⟨h86, hf⟩ := chk_in hf
          refine r_iald X hP 9 (wX9_g0_9 _ _ _ _) h86 dX9_folds_86 ?_
          refine lv_istore (lv' := [(11, .int (g81 9 ((((64 * p1) + x3) + x80) : Int32).toNatClampNeg)), (0, .ref (a 0)), (1, .int p1), (2, .int p2), (3, .int (p2 &&& 1)), (4, .int ((p2 / 8) + 1)), (5, .int (64 * p1)), (6, .int ((64 * p1) + 64)), (7, .int x3), (8, .int x78), (9, .int x79), (10, .int x80)]) hx hb dX9_folds_87 hl (by decide) rfl (fun ls hl => ?_)
          refine lv_aload_n hx hb dX9_folds_89 rfl (lv_at hl 1 rfl) ?_
          refine r_get X hP 0 (wX9_g0_0 _ _ _ _) rfl inc_X9 17 (by decide) fl_X9_41 rfl dX9_folds_90 ?_
          refine lv_iload hx hb dX9_folds_93 (lv_at hl 11 rfl) ?_
          refine lv_iload_n hx hb dX9_folds_95 rfl (lv_at hl 3 rfl) ?_
          refine lv_iconst (v := 1) hx hb dX9_folds_96 (by decide) ?_
          refine lv_ishr hx hb dX9_folds_97 ?_
          refine lv_iconst (v := 1) hx hb dX9_folds_98 (by decide) ?_
          refine lv_iand hx hb dX9_folds_99 ?_
          have J17 : ∀ (x87 : Int32), j_X9_folds_17 p1 p2 x3 x78 x79 x80 g81 k82 x87 = some out → ∀ (H : Heap) (locs : List Loc) (ls : Array Slot), va_P E.1 vwCl (wX9 E a g81 tr) H → va_D A (wX9 E a g81 tr) → va_S A s.heap H locs → lv_has ls 15 [(0, .ref (a 0)), (1, .int p1), (2, .int p2), (3, .int (p2 &&& 1)), (4, .int ((p2 / 8) + 1)), (5, .int (64 * p1)), (6, .int ((64 * p1) + 64)), (7, .int x3), (8, .int x78), (9, .int x79), (10, .int x80), (11, .int (g81 9 ((((64 * p1) + x3) + x80) : Int32).toNatClampNeg))] → W p l e rm_X9_folds s m ([.ref (a 0), .int p1, .int p2] : List Value).toArray below meth c H locs 0 0 (MQ below (va_Qi (fun x (_ : Unit) => x = out.1) (fun _ t => QW E (wX9 E a out.2 tr) t) A) ([.ref (a 0), .int p1, .int p2] : List Value).toArray s 0 0 A) (F0 m 130 ls [.int x87, .int x80, .ref (a 11)]) := by
            intro x87 hf H locs ls hP hD hS hl
            obtain ⟨h88, hf⟩ := chk_in hf
            refine r_zast X hP hD hS 11 (wX9_g0_11 _ _ _ _) h88 (wX9_t0_11 _ _ _ _ _ _) dX9_folds_130 (fun H locs hP hD hS => ?_)
            refine lv_aload_n hx hb dX9_folds_131 rfl (lv_at hl 0 rfl) ?_
            refine r_get X hP 0 (wX9_g0_0 _ _ _ _) rfl inc_X9 18 (by decide) fl_X9_44 rfl dX9_folds_132 ?_
            refine lv_iload hx hb dX9_folds_135 (lv_at hl 10 rfl) ?_
            refine lv_aload_n hx hb dX9_folds_137 rfl (lv_at hl 0 rfl) ?_
            refine r_get X hP 0 (wX9_g0_0 _ _ _ _) rfl inc_X9 17 (by decide) fl_X9_41 rfl dX9_folds_138 ?_
            refine lv_iload hx hb dX9_folds_141 (lv_at hl 10 rfl) ?_
            obtain ⟨h89, hf⟩ := chk_in hf
            refine r_zald X hP 11 (wX9_g0_11 _ _ _ _) h89 dX9_folds_143 ?_
            have J18 : ∀ (x90 : Int32), j_X9_folds_18 x78 x79 x80 g81 k82 x87 x90 = some out → ∀ (H : Heap) (locs : List Loc) (ls : Array Slot), va_P E.1 vwCl (wX9 E a (sg_st g81 11 (x80 : Int32).toNatClampNeg (vp_nar .boolean x87)) tr) H → va_D A (wX9 E a (sg_st g81 11 (x80 : Int32).toNatClampNeg (vp_nar .boolean x87)) tr) → va_S A s.heap H locs → lv_has ls 15 [(0, .ref (a 0)), (1, .int p1), (2, .int p2), (3, .int (p2 &&& 1)), (4, .int ((p2 / 8) + 1)), (5, .int (64 * p1)), (6, .int ((64 * p1) + 64)), (7, .int x3), (8, .int x78), (9, .int x79), (10, .int x80)] → W p l e rm_X9_folds s m ([.ref (a 0), .int p1, .int p2] : List Value).toArray below meth c H locs 0 0 (MQ below (va_Qi (fun x (_ : Unit) => x = out.1) (fun _ t => QW E (wX9 E a out.2 tr) t) A) ([.ref (a 0), .int p1, .int p2] : List Value).toArray s 0 0 A) (F0 m 161 ls [.int x90, .int x80, .ref (a 12)]) := by
              intro x90 hf H locs ls hP hD hS hl
              obtain ⟨h91, hf⟩ := chk_in hf
              refine r_iast X hP hD hS 12 (wX9_g0_12 _ _ _ _) h91 (wX9_t0_12 _ _ _ _ _ _) dX9_folds_161 (fun H locs hP hD hS => ?_)
              refine lv_aload_n hx hb dX9_folds_162 rfl (lv_at hl 0 rfl) ?_
              refine r_get X hP 0 (wX9_g0_0 _ _ _ _) rfl inc_X9 18 (by decide) fl_X9_44 rfl dX9_folds_163 ?_
              refine lv_iload hx hb dX9_folds_166 (lv_at hl 10 rfl) ?_
              obtain ⟨h92, hf⟩ := chk_in hf
              refine r_iald X hP 12 (wX9_g0_12 _ _ _ _) h92 dX9_folds_168 ?_
              refine lv_iload hx hb dX9_folds_169 (lv_at hl 8 rfl) ?_
              have J19 : ∀ (x93 : Int32), j_X9_folds_19 x79 x80 g81 k82 x87 x90 x93 = some out → ∀ (H : Heap) (locs : List Loc) (ls : Array Slot), va_P E.1 vwCl (wX9 E a (sg_st (sg_st g81 11 (x80 : Int32).toNatClampNeg (vp_nar .boolean x87)) 12 (x80 : Int32).toNatClampNeg x90) tr) H → va_D A (wX9 E a (sg_st (sg_st g81 11 (x80 : Int32).toNatClampNeg (vp_nar .boolean x87)) 12 (x80 : Int32).toNatClampNeg x90) tr) → va_S A s.heap H locs → lv_has ls 15 [(0, .ref (a 0)), (1, .int p1), (2, .int p2), (3, .int (p2 &&& 1)), (4, .int ((p2 / 8) + 1)), (5, .int (64 * p1)), (6, .int ((64 * p1) + 64)), (7, .int x3), (9, .int x79), (10, .int x80)] → W p l e rm_X9_folds s m ([.ref (a 0), .int p1, .int p2] : List Value).toArray below meth c H locs 0 0 (MQ below (va_Qi (fun x (_ : Unit) => x = out.1) (fun _ t => QW E (wX9 E a out.2 tr) t) A) ([.ref (a 0), .int p1, .int p2] : List Value).toArray s 0 0 A) (F0 m 186 ls [.int x93]) := by
                intro x93 hf H locs ls hP hD hS hl
                refine lv_istore (lv' := [(8, .int x93), (0, .ref (a 0)), (1, .int p1), (2, .int p2), (3, .int (p2 &&& 1)), (4, .int ((p2 / 8) + 1)), (5, .int (64 * p1)), (6, .int ((64 * p1) + 64)), (7, .int x3), (9, .int x79), (10, .int x80)]) hx hb dX9_folds_186 hl (by decide) rfl (fun ls hl => ?_)
                refine lv_aload_n hx hb dX9_folds_188 rfl (lv_at hl 1 rfl) ?_
                refine r_get X hP 0 (wX9_g0_0 _ _ _ _) rfl inc_X9 18 (by decide) fl_X9_44 rfl dX9_folds_189 ?_
                refine lv_iload hx hb dX9_folds_192 (lv_at hl 10 rfl) ?_
                obtain ⟨h94, hf⟩ := chk_in hf
                refine r_iald X hP 12 (wX9_g0_12 _ _ _ _) h94 dX9_folds_194 ?_
                refine lv_iload hx hb dX9_folds_195 (lv_at hl 9 rfl) ?_
                refine lv_icmp_le (tgt := 210) hx hb dX9_folds_197 (by decide) (fun c95 => ?_) (fun c95 => ?_)
                · have hf := (if_pos c95).symm.trans hf
                  refine lv_iload hx hb dX9_folds_210 (lv_at hl 9 rfl) ?_
                  refine lv_istore (lv' := [(9, .int x79), (8, .int x93), (0, .ref (a 0)), (1, .int p1), (2, .int p2), (3, .int (p2 &&& 1)), (4, .int ((p2 / 8) + 1)), (5, .int (64 * p1)), (6, .int ((64 * p1) + 64)), (7, .int x3), (10, .int x80)]) hx hb dX9_folds_212 hl (by decide) rfl (fun ls hl => ?_)
                  refine lv_iinc (v := (x80 + 1)) (lv' := [(10, .int (x80 + 1)), (9, .int x79), (8, .int x93), (0, .ref (a 0)), (1, .int p1), (2, .int p2), (3, .int (p2 &&& 1)), (4, .int ((p2 / 8) + 1)), (5, .int (64 * p1)), (6, .int ((64 * p1) + 64)), (7, .int x3)]) hx hb dX9_folds_214 hl (k := 10) rfl rfl (by decide) rfl (fun ls hl => ?_)
                  refine lv_goto (tgt := 65) hx hb dX9_folds_217 (by decide) ?_
                  exact ih83 x93 x79 (x80 + 1) (sg_st (sg_st g81 11 (x80 : Int32).toNatClampNeg (vp_nar .boolean x87)) 12 (x80 : Int32).toNatClampNeg x90) hf H locs ls hP hD hS (lv_sub hl [3, 4, 5, 6, 7, 8, 9, 10, 2, 1, 0] rfl)
                · have hf := (if_neg c95).symm.trans hf
                  refine lv_aload_n hx hb dX9_folds_200 rfl (lv_at hl 1 rfl) ?_
                  refine r_get X hP 0 (wX9_g0_0 _ _ _ _) rfl inc_X9 18 (by decide) fl_X9_44 rfl dX9_folds_201 ?_
                  refine lv_iload hx hb dX9_folds_204 (lv_at hl 10 rfl) ?_
                  obtain ⟨h96, hf⟩ := chk_in hf
                  refine r_iald X hP 12 (wX9_g0_12 _ _ _ _) h96 dX9_folds_206 ?_
                  refine lv_goto (tgt := 212) hx hb dX9_folds_207 (by decide) ?_
                  refine lv_istore (lv' := [(9, .int ((sg_st (sg_st g81 11 (x80 : Int32).toNatClampNeg (vp_nar .boolean x87)) 12 (x80 : Int32).toNatClampNeg x90) 12 (x80 : Int32).toNatClampNeg)), (8, .int x93), (0, .ref (a 0)), (1, .int p1), (2, .int p2), (3, .int (p2 &&& 1)), (4, .int ((p2 / 8) + 1)), (5, .int (64 * p1)), (6, .int ((64 * p1) + 64)), (7, .int x3), (10, .int x80)]) hx hb dX9_folds_212 hl (by decide) rfl (fun ls hl => ?_)
                  refine lv_iinc (v := (x80 + 1)) (lv' := [(10, .int (x80 + 1)), (9, .int ((sg_st (sg_st g81 11 (x80 : Int32).toNatClampNeg (vp_nar .boolean x87)) 12 (x80 : Int32).toNatClampNeg x90) 12 (x80 : Int32).toNatClampNeg)), (8, .int x93), (0, .ref (a 0)), (1, .int p1), (2, .int p2), (3, .int (p2 &&& 1)), (4, .int ((p2 / 8) + 1)), (5, .int (64 * p1)), (6, .int ((64 * p1) + 64)), (7, .int x3)]) hx hb dX9_folds_214 hl (k := 10) rfl rfl (by decide) rfl (fun ls hl => ?_)
                  refine lv_goto (tgt := 65) hx hb dX9_folds_217 (by decide) ?_
                  exact ih83 x93 ((sg_st (sg_st g81 11 (x80 : Int32).toNatClampNeg (vp_nar .boolean x87)) 12 (x80 : Int32).toNatClampNeg x90) 12 (x80 : Int32).toNatClampNeg) (x80 + 1) (sg_st (sg_st g81 11 (x80 : Int32).toNatClampNeg (vp_nar .boolean x87)) 12 (x80 : Int32).toNatClampNeg x90) hf H locs ls hP hD hS (lv_sub hl [3, 4, 5, 6, 7, 8, 9, 10, 2, 1, 0] rfl)
              refine lv_icmp_ge (tgt := 184) hx hb dX9_folds_171 (by decide) (fun c97 => ?_) (fun c97 => ?_)
              · have hf := (if_pos c97).symm.trans hf
                refine lv_iload hx hb dX9_folds_184 (lv_at hl 8 rfl) ?_
                exact J19 x78 hf H locs ls hP hD hS (lv_sub hl [0, 1, 2, 3, 4, 5, 6, 7, 9, 10] rfl)
              · have hf := (if_neg c97).symm.trans hf
                refine lv_aload_n hx hb dX9_folds_174 rfl (lv_at hl 0 rfl) ?_
                refine r_get X hP 0 (wX9_g0_0 _ _ _ _) rfl inc_X9 18 (by decide) fl_X9_44 rfl dX9_folds_175 ?_
                refine lv_iload hx hb dX9_folds_178 (lv_at hl 10 rfl) ?_
                obtain ⟨h98, hf⟩ := chk_in hf
                refine r_iald X hP 12 (wX9_g0_12 _ _ _ _) h98 dX9_folds_180 ?_
                refine lv_goto (tgt := 186) hx hb dX9_folds_181 (by decide) ?_
                exact J19 ((sg_st (sg_st g81 11 (x80 : Int32).toNatClampNeg (vp_nar .boolean x87)) 12 (x80 : Int32).toNatClampNeg x90) 12 (x80 : Int32).toNatClampNeg) hf H locs ls hP hD hS (lv_sub hl [0, 1, 2, 3, 4, 5, 6, 7, 9, 10] rfl)
            refine lv_if_eq (tgt := 159) hx hb dX9_folds_144 (by decide) (fun c99 => ?_) (fun c99 => ?_)
            · have hf := (if_pos c99).symm.trans hf
              refine lv_iload hx hb dX9_folds_159 (lv_at hl 11 rfl) ?_
              exact J18 (g81 9 ((((64 * p1) + x3) + x80) : Int32).toNatClampNeg) hf H locs ls hP hD hS (lv_sub hl [0, 1, 2, 3, 4, 5, 6, 7, 8, 9, 10] rfl)
            · have hf := (if_neg c99).symm.trans hf
              refine lv_iconst (v := 2) hx hb dX9_folds_147 (by decide) ?_
              refine lv_iload hx hb dX9_folds_148 (lv_at hl 4 rfl) ?_
              refine lv_imul hx hb dX9_folds_150 ?_
              refine lv_iconst (v := 1) hx hb dX9_folds_151 (by decide) ?_
              refine lv_isub hx hb dX9_folds_152 ?_
              refine lv_iload hx hb dX9_folds_153 (lv_at hl 11 rfl) ?_
              refine lv_isub hx hb dX9_folds_155 ?_
              refine lv_goto (tgt := 161) hx hb dX9_folds_156 (by decide) ?_
              exact J18 (((2 * ((p2 / 8) + 1)) - 1) - (g81 9 ((((64 * p1) + x3) + x80) : Int32).toNatClampNeg)) hf H locs ls hP hD hS (lv_sub hl [0, 1, 2, 3, 4, 5, 6, 7, 8, 9, 10] rfl)
          refine lv_if_ne (tgt := 118) hx hb dX9_folds_100 (by decide) (fun c100 => ?_) (fun c100 => ?_)
          · have hf := (if_neg c100).symm.trans hf
            refine lv_iload hx hb dX9_folds_118 (lv_at hl 0 rfl) ?_
            refine lv_iload hx hb dX9_folds_120 (lv_at hl 5 rfl) ?_
            refine lv_icmp_lt (tgt := 129) hx hb dX9_folds_122 (by decide) (fun c101 => ?_) (fun c101 => ?_)
            · have hf := (if_pos c101).symm.trans hf
              refine lv_iconst (v := 0) hx hb dX9_folds_129 (by decide) ?_
              exact J17 0 hf H locs ls hP hD hS (lv_sub hl [1, 2, 3, 4, 5, 6, 7, 8, 9, 10, 11, 0] rfl)
            · have hf := (if_neg c101).symm.trans hf
              refine lv_iconst (v := 1) hx hb dX9_folds_125 (by decide) ?_
              refine lv_goto (tgt := 130) hx hb dX9_folds_126 (by decide) ?_
              exact J17 1 hf H locs ls hP hD hS (lv_sub hl [1, 2, 3, 4, 5, 6, 7, 8, 9, 10, 11, 0] rfl)
          · have hf := (if_pos c100).symm.trans hf
            refine lv_iload hx hb dX9_folds_103 (lv_at hl 0 rfl) ?_
            refine lv_iload hx hb dX9_folds_105 (lv_at hl 5 rfl) ?_
            refine lv_icmp_ge (tgt := 114) hx hb dX9_folds_107 (by decide) (fun c102 => ?_) (fun c102 => ?_)
            · have hf := (if_pos c102).symm.trans hf
              refine lv_iconst (v := 0) hx hb dX9_folds_114 (by decide) ?_
              refine lv_goto (tgt := 130) hx hb dX9_folds_115 (by decide) ?_
              exact J17 0 hf H locs ls hP hD hS (lv_sub hl [1, 2, 3, 4, 5, 6, 7, 8, 9, 10, 11, 0] rfl)
            · have hf := (if_neg c102).symm.trans hf
              refine lv_iconst (v := 1) hx hb dX9_folds_110 (by decide) ?_
              refine lv_goto (tgt := 130) hx hb dX9_folds_111 (by decide) ?_
              exact J17 1 hf H locs ls hP hD hS (lv_sub hl [1, 2, 3, 4, 5, 6, 7, 8, 9, 10, 11, 0] rfl))
      exact L83 1000 100 (-100) 0 σ hf H locs ls hP hD hS (lv_sub hl [4, 5, 6, 7, 8, 9, 10, 3, 2, 1, 0] rfl)
    refine lv_if_ne (tgt := 50) hx hb dX9_folds_43 (by decide) (fun c103 => ?_) (fun c103 => ?_)
    · have hf := (if_neg c103).symm.trans hf
      refine lv_bipush (v := 16) hx hb dX9_folds_50 (by decide) ?_
      exact J1 16 hf H locs ls hP hD hS (lv_sub hl [4, 5, 6, 3, 2, 1, 0] rfl)
    · have hf := (if_pos c103).symm.trans hf
      refine lv_iconst (v := 0) hx hb dX9_folds_46 (by decide) ?_
      refine lv_goto (tgt := 52) hx hb dX9_folds_47 (by decide) ?_
      exact J1 0 hf H locs ls hP hD hS (lv_sub hl [4, 5, 6, 3, 2, 1, 0] rfl)
  · have hf := (if_neg c2).symm.trans hf
    refine lv_iconst (v := 0) hx hb dX9_folds_27 (by decide) ?_
    have ho := Option.some.inj hf
    have hv : 0 = out.1 := by rw [← ho]
    have hw := congrArg (fun o : Int32 × Sg => (wX9 E a o.2 tr)) ho
    exact r_zret X hr hP hS rfl hv hw dX9_folds_28
def rm_X9_now : Room := { frames := 3, cells := 0, slots := 0, locals := 81 }
theorem pv_X9_now : PkV RX9 yX9_now cX9_now 3 none 1 := ⟨im_X9_now, se_X9_now, ini_X9, cd_X9_now, by decide +kernel⟩
set_option maxHeartbeats 4000000 in
set_option maxRecDepth 100000 in
theorem c_X9_now (l : Launch) (E : Ev) (a : Nat → Nat) (σ : Sg) (tr : Int64) (p1 : Int32) {out : Sg} (hf : f_X9_now σ tr p1 = some out) : MtV l yX9_now (wl yX9_now cX9_now 3 none) rm_X9_now E [.ref (a 0), .int p1] (wX9 E a σ tr) (wX9 E a out tr) := by
  refine mt_of (QQ := (fun A => va_Qv (fun _ : Unit => True) (fun _ t => QW E (wX9 E a out tr) t) A)) (by decide) (Nat.le_of_ble_eq_true rfl) (fun p e s m below meth c A ls X hr hP hD hS hl => ?_)
  have hx := X.1.1
  have hb := X.1.2.1
  have hl : lv_has ls 3 [(0, .ref (a 0)), (1, .int p1)] := hl
  obtain ⟨H, hHe⟩ : ∃ H : Heap, H = s.heap := ⟨_, rfl⟩
  obtain ⟨locs, hLe⟩ : ∃ locs : List Loc, locs = [] := ⟨_, rfl⟩
  have hP : va_P E.1 vwCl (wX9 E a σ tr) H := by rw [hHe]; exact hP
  have hS : va_S A s.heap H locs := by rw [hHe, hLe]; exact hS
  rw [← hLe, show W p l e rm_X9_now s m ([.ref (a 0), .int p1] : List Value).toArray below meth c s.heap locs 0 0 = W p l e rm_X9_now s m ([.ref (a 0), .int p1] : List Value).toArray below meth c H locs 0 0 from by rw [hHe]]
  refine lv_aload_n hx hb dX9_now_0 rfl (lv_at hl 0 rfl) ?_
  obtain ⟨z1, hz1, hf⟩ := obd hf
  refine cV_allV X (As := []) (rest := []) (c_X9_flat l E a σ tr hz1) pv_X9_flat ml_X9_133 ⟨rfl, rfl⟩ ⟨(Nat.le_of_ble_eq_true rfl), (Nat.le_of_ble_eq_true rfl)⟩ hP hD hS (wX9_g0_0 _ _ _ _) rfl (wX9_adr _ _ _ _ _ _) rfl hl.1 rfl (Nat.le_of_ble_eq_true rfl) dX9_now_1 ⟨Nat.le_refl _, Nat.le_refl _⟩ (fun H locs hP hD hS => ?_)
  refine lv_iconst (v := 0) hx hb dX9_now_4 (by decide) ?_
  refine lv_istore_n (lv' := [(2, .int 0), (0, .ref (a 0)), (1, .int p1)]) hx hb dX9_now_5 rfl hl (by decide) rfl (fun ls hl => ?_)
  have L4 := lc2_ind (o := out) (step := (s_X9_now_6 tr p1)) (fun x2 g3 => ∀ (H : Heap) (locs : List Loc) (ls : Array Slot), va_P E.1 vwCl (wX9 E a g3 tr) H → va_D A (wX9 E a g3 tr) → va_S A s.heap H locs → lv_has ls 3 [(0, .ref (a 0)), (1, .int p1), (2, .int x2)] → W p l e rm_X9_now s m ([.ref (a 0), .int p1] : List Value).toArray below meth c H locs 0 0 (MQ below (va_Qv (fun _ : Unit => True) (fun _ t => QW E (wX9 E a out tr) t) A) ([.ref (a 0), .int p1] : List Value).toArray s 0 0 A) (F0 m 6 ls [])) (fun x2 g3 k4 ih4 hf H locs ls hP hD hS hl => by
    refine lv_iload_n hx hb dX9_now_6 rfl (lv_at hl 2 rfl) ?_
    refine lv_iload_n hx hb dX9_now_7 rfl (lv_at hl 1 rfl) ?_
    refine lv_icmp_ge (tgt := 38) hx hb dX9_now_8 (by decide) (fun c5 => ?_) (fun c5 => ?_)
    · have hf := (if_pos c5).symm.trans hf
      have ho := Option.some.inj hf
      have hw := congrArg (fun o : Sg => (wX9 E a o tr)) ho
      exact r_vret X hr hP hS hw dX9_now_38
    · have hf := (if_neg c5).symm.trans hf
      refine lv_aload_n hx hb dX9_now_11 rfl (lv_at hl 0 rfl) ?_
      refine lv_iconst (v := 0) hx hb dX9_now_12 (by decide) ?_
      refine lv_aload_n hx hb dX9_now_13 rfl (lv_at hl 0 rfl) ?_
      refine r_get X hP 0 (wX9_g0_0 _ _ _ _) rfl inc_X9 5 (by decide) fl_X9_19 rfl dX9_now_14 ?_
      refine lv_iconst (v := 2) hx hb dX9_now_17 (by decide) ?_
      refine lv_iload_n hx hb dX9_now_18 rfl (lv_at hl 2 rfl) ?_
      refine lv_iadd hx hb dX9_now_19 ?_
      obtain ⟨h6, hf⟩ := chk_in hf
      refine r_iald X hP 4 (wX9_g0_4 _ _ _ _) h6 dX9_now_20 ?_
      obtain ⟨z7, hz7, hf⟩ := obd hf
      refine cV_allI X (As := [.int 0, .int (g3 4 ((2 + x2) : Int32).toNatClampNeg)]) (rest := []) (c_X9_folds l E a g3 tr 0 (g3 4 ((2 + x2) : Int32).toNatClampNeg) hz7) pv_X9_folds ml_X9_136 ⟨rfl, rfl⟩ ⟨(Nat.le_of_ble_eq_true rfl), (Nat.le_of_ble_eq_true rfl)⟩ hP hD hS (wX9_g0_0 _ _ _ _) rfl (wX9_adr _ _ _ _ _ _) rfl hl.1 rfl (Nat.le_of_ble_eq_true rfl) dX9_now_21 ⟨Nat.le_refl _, Nat.le_refl _⟩ (fun H locs hP hD hS => ?_)
      refine lv_if_eq (tgt := 32) hx hb dX9_now_24 (by decide) (fun c8 => ?_) (fun c8 => ?_)
      · have hf := (if_pos c8).symm.trans hf
        refine lv_iinc (v := (x2 + 1)) (lv' := [(2, .int (x2 + 1)), (0, .ref (a 0)), (1, .int p1)]) hx hb dX9_now_32 hl (k := 2) rfl rfl (by decide) rfl (fun ls hl => ?_)
        refine lv_goto (tgt := 6) hx hb dX9_now_35 (by decide) ?_
        exact ih4 (x2 + 1) z7.2 hf H locs ls hP hD hS (lv_sub hl [1, 2, 0] rfl)
      · have hf := (if_neg c8).symm.trans hf
        refine lv_aload_n hx hb dX9_now_27 rfl (lv_at hl 0 rfl) ?_
        refine lv_iconst (v := 1) hx hb dX9_now_28 (by decide) ?_
        obtain ⟨z9, hz9, hf⟩ := obd hf
        refine cV_allV X (As := [.int 1]) (rest := []) (c_X9_falls l E a z7.2 tr 1 hz9) pv_X9_falls ml_X9_140 ⟨rfl, rfl⟩ ⟨(Nat.le_of_ble_eq_true rfl), (Nat.le_of_ble_eq_true rfl)⟩ hP hD hS (wX9_g0_0 _ _ _ _) rfl (wX9_adr _ _ _ _ _ _) rfl hl.1 rfl (Nat.le_of_ble_eq_true rfl) dX9_now_29 ⟨Nat.le_refl _, Nat.le_refl _⟩ (fun H locs hP hD hS => ?_)
        refine lv_iinc (v := (x2 + 1)) (lv' := [(2, .int (x2 + 1)), (0, .ref (a 0)), (1, .int p1)]) hx hb dX9_now_32 hl (k := 2) rfl rfl (by decide) rfl (fun ls hl => ?_)
        refine lv_goto (tgt := 6) hx hb dX9_now_35 (by decide) ?_
        exact ih4 (x2 + 1) z9 hf H locs ls hP hD hS (lv_sub hl [1, 2, 0] rfl))
  exact L4 1000 0 z1 hf H locs ls hP hD hS (lv_sub hl [1, 2, 0] rfl)
def rm_X9_at : Room := { frames := 4, cells := 0, slots := 0, locals := 103 }
theorem pv_X9_at : PkV RX9 yX9_at cX9_at 6 (some .int) 3 := ⟨im_X9_at, se_X9_at, ini_X9, cd_X9_at, by decide +kernel⟩
set_option maxHeartbeats 4000000 in
set_option maxRecDepth 100000 in
theorem c_X9_at (l : Launch) (E : Ev) (a : Nat → Nat) (σ : Sg) (tr : Int64) (p1 : Int32) (p2 : Int32) (p3 : Int32) {out : Int32 × Sg} (hf : f_X9_at σ tr p1 p2 p3 = some out) : MtI l yX9_at (wl yX9_at cX9_at 6 (some .int)) rm_X9_at E [.ref (a 0), .int p1, .int p2, .int p3] (wX9 E a σ tr) out.1 (wX9 E a out.2 tr) := by
  refine mt_of (QQ := (fun A => va_Qi (fun x (_ : Unit) => x = out.1) (fun _ t => QW E (wX9 E a out.2 tr) t) A)) (by decide) (Nat.le_of_ble_eq_true rfl) (fun p e s m below meth c A ls X hr hP hD hS hl => ?_)
  have hx := X.1.1
  have hb := X.1.2.1
  have hl : lv_has ls 6 [(0, .ref (a 0)), (1, .int p1), (2, .int p2), (3, .int p3)] := hl
  obtain ⟨H, hHe⟩ : ∃ H : Heap, H = s.heap := ⟨_, rfl⟩
  obtain ⟨locs, hLe⟩ : ∃ locs : List Loc, locs = [] := ⟨_, rfl⟩
  have hP : va_P E.1 vwCl (wX9 E a σ tr) H := by rw [hHe]; exact hP
  have hS : va_S A s.heap H locs := by rw [hHe, hLe]; exact hS
  rw [← hLe, show W p l e rm_X9_at s m ([.ref (a 0), .int p1, .int p2, .int p3] : List Value).toArray below meth c s.heap locs 0 0 = W p l e rm_X9_at s m ([.ref (a 0), .int p1, .int p2, .int p3] : List Value).toArray below meth c H locs 0 0 from by rw [hHe]]
  refine lv_iload_n hx hb dX9_at_0 rfl (lv_at hl 1 rfl) ?_
  refine lv_if_lt (tgt := 12) hx hb dX9_at_1 (by decide) (fun c1 => ?_) (fun c1 => ?_)
  · have hf := (if_pos c1).symm.trans hf
    refine lv_iconst (v := (-1)) hx hb dX9_at_12 (by decide) ?_
    have ho := Option.some.inj hf
    have hv : (-1) = out.1 := by rw [← ho]
    have hw := congrArg (fun o : Int32 × Sg => (wX9 E a o.2 tr)) ho
    exact r_iret X hr hP hS hv hw dX9_at_13
  · have hf := (if_neg c1).symm.trans hf
    refine lv_iload_n hx hb dX9_at_4 rfl (lv_at hl 2 rfl) ?_
    refine lv_if_lt (tgt := 12) hx hb dX9_at_5 (by decide) (fun c2 => ?_) (fun c2 => ?_)
    · have hf := (if_pos c2).symm.trans hf
      refine lv_iconst (v := (-1)) hx hb dX9_at_12 (by decide) ?_
      have ho := Option.some.inj hf
      have hv : (-1) = out.1 := by rw [← ho]
      have hw := congrArg (fun o : Int32 × Sg => (wX9 E a o.2 tr)) ho
      exact r_iret X hr hP hS hv hw dX9_at_13
    · have hf := (if_neg c2).symm.trans hf
      refine lv_iload_n hx hb dX9_at_8 rfl (lv_at hl 3 rfl) ?_
      refine lv_if_ge (tgt := 14) hx hb dX9_at_9 (by decide) (fun c3 => ?_) (fun c3 => ?_)
      · have hf := (if_pos c3).symm.trans hf
        refine lv_aload_n hx hb dX9_at_14 rfl (lv_at hl 0 rfl) ?_
        refine lv_aload_n hx hb dX9_at_15 rfl (lv_at hl 0 rfl) ?_
        refine r_get X hP 0 (wX9_g0_0 _ _ _ _) rfl inc_X9 5 (by decide) fl_X9_19 rfl dX9_at_16 ?_
        refine lv_iconst (v := 1) hx hb dX9_at_19 (by decide) ?_
        obtain ⟨h4, hf⟩ := chk_in hf
        refine r_iald X hP 4 (wX9_g0_4 _ _ _ _) h4 dX9_at_20 ?_
        obtain ⟨z5, hz5, hf⟩ := obd hf
        refine cV_allV X (As := [.int (σ 4 (1 : Int32).toNatClampNeg)]) (rest := []) (c_X9_now l E a σ tr (σ 4 (1 : Int32).toNatClampNeg) hz5) pv_X9_now ml_X9_148 ⟨rfl, rfl⟩ ⟨(Nat.le_of_ble_eq_true rfl), (Nat.le_of_ble_eq_true rfl)⟩ hP hD hS (wX9_g0_0 _ _ _ _) rfl (wX9_adr _ _ _ _ _ _) rfl hl.1 rfl (Nat.le_of_ble_eq_true rfl) dX9_at_21 ⟨Nat.le_refl _, Nat.le_refl _⟩ (fun H locs hP hD hS => ?_)
        refine lv_bipush (v := (-9)) hx hb dX9_at_24 (by decide) ?_
        refine lv_istore (lv' := [(4, .int (-9)), (0, .ref (a 0)), (1, .int p1), (2, .int p2), (3, .int p3)]) hx hb dX9_at_26 hl (by decide) rfl (fun ls hl => ?_)
        refine lv_iconst (v := 0) hx hb dX9_at_28 (by decide) ?_
        refine lv_istore (lv' := [(5, .int 0), (4, .int (-9)), (0, .ref (a 0)), (1, .int p1), (2, .int p2), (3, .int p3)]) hx hb dX9_at_29 hl (by decide) rfl (fun ls hl => ?_)
        have L8 := lc2_ind (o := out) (step := (s_X9_at_31 tr p1 p2 p3 z5)) (fun x6 x7 => ∀ (H : Heap) (locs : List Loc) (ls : Array Slot), va_P E.1 vwCl (wX9 E a z5 tr) H → va_D A (wX9 E a z5 tr) → va_S A s.heap H locs → lv_has ls 6 [(0, .ref (a 0)), (1, .int p1), (2, .int p2), (3, .int p3), (4, .int x6), (5, .int x7)] → W p l e rm_X9_at s m ([.ref (a 0), .int p1, .int p2, .int p3] : List Value).toArray below meth c H locs 0 0 (MQ below (va_Qi (fun x (_ : Unit) => x = out.1) (fun _ t => QW E (wX9 E a out.2 tr) t) A) ([.ref (a 0), .int p1, .int p2, .int p3] : List Value).toArray s 0 0 A) (F0 m 31 ls [])) (fun x6 x7 k8 ih8 hf H locs ls hP hD hS hl => by
          refine lv_iload hx hb dX9_at_31 (lv_at hl 5 rfl) ?_
          refine lv_aload_n hx hb dX9_at_33 rfl (lv_at hl 0 rfl) ?_
          obtain ⟨z9, hz9, hf⟩ := obd hf
          refine cV_allI X (As := []) (rest := [.int x7]) (c_X9_cells l E a z5 tr hz9) pv_X9_cells ml_X9_51 ⟨rfl, rfl⟩ ⟨(Nat.le_of_ble_eq_true rfl), (Nat.le_of_ble_eq_true rfl)⟩ hP hD hS (wX9_g0_0 _ _ _ _) rfl (wX9_adr _ _ _ _ _ _) rfl hl.1 rfl (Nat.le_of_ble_eq_true rfl) dX9_at_34 ⟨Nat.le_refl _, Nat.le_refl _⟩ (fun H locs hP hD hS => ?_)
          refine lv_icmp_ge (tgt := 94) hx hb dX9_at_37 (by decide) (fun c10 => ?_) (fun c10 => ?_)
          · have hf := (if_pos c10).symm.trans hf
            refine lv_iload hx hb dX9_at_94 (lv_at hl 4 rfl) ?_
            have ho := Option.some.inj hf
            have hv : x6 = out.1 := by rw [← ho]
            have hw := congrArg (fun o : Int32 × Sg => (wX9 E a o.2 tr)) ho
            exact r_iret X hr hP hS hv hw dX9_at_96
          · have hf := (if_neg c10).symm.trans hf
            refine lv_aload_n hx hb dX9_at_40 rfl (lv_at hl 0 rfl) ?_
            refine r_get X hP 0 (wX9_g0_0 _ _ _ _) rfl inc_X9 15 (by decide) fl_X9_35 rfl dX9_at_41 ?_
            refine lv_iload hx hb dX9_at_44 (lv_at hl 5 rfl) ?_
            obtain ⟨h11, hf⟩ := chk_in hf
            refine r_iald X hP 9 (wX9_g0_9 _ _ _ _) h11 dX9_at_46 ?_
            refine lv_iload_n hx hb dX9_at_47 rfl (lv_at hl 1 rfl) ?_
            refine lv_icmp_ne (tgt := 84) hx hb dX9_at_48 (by decide) (fun c12 => ?_) (fun c12 => ?_)
            · have hf := (if_neg c12).symm.trans hf
              refine lv_iload hx hb dX9_at_84 (lv_at hl 4 rfl) ?_
              refine lv_istore (lv' := [(4, .int x6), (0, .ref (a 0)), (1, .int p1), (2, .int p2), (3, .int p3), (5, .int x7)]) hx hb dX9_at_86 hl (by decide) rfl (fun ls hl => ?_)
              refine lv_iinc (v := (x7 + 1)) (lv' := [(5, .int (x7 + 1)), (4, .int x6), (0, .ref (a 0)), (1, .int p1), (2, .int p2), (3, .int p3)]) hx hb dX9_at_88 hl (k := 5) rfl rfl (by decide) rfl (fun ls hl => ?_)
              refine lv_goto (tgt := 31) hx hb dX9_at_91 (by decide) ?_
              exact ih8 x6 (x7 + 1) hf H locs ls hP hD hS (lv_sub hl [2, 3, 4, 5, 1, 0] rfl)
            · have hf := (if_pos c12).symm.trans hf
              refine lv_aload_n hx hb dX9_at_51 rfl (lv_at hl 0 rfl) ?_
              refine r_get X hP 0 (wX9_g0_0 _ _ _ _) rfl inc_X9 15 (by decide) fl_X9_35 rfl dX9_at_52 ?_
              refine lv_bipush (v := 16) hx hb dX9_at_55 (by decide) ?_
              refine lv_iload hx hb dX9_at_57 (lv_at hl 5 rfl) ?_
              refine lv_iadd hx hb dX9_at_59 ?_
              obtain ⟨h13, hf⟩ := chk_in hf
              refine r_iald X hP 9 (wX9_g0_9 _ _ _ _) h13 dX9_at_60 ?_
              refine lv_iload_n hx hb dX9_at_61 rfl (lv_at hl 2 rfl) ?_
              refine lv_icmp_ne (tgt := 84) hx hb dX9_at_62 (by decide) (fun c14 => ?_) (fun c14 => ?_)
              · have hf := (if_neg c14).symm.trans hf
                refine lv_iload hx hb dX9_at_84 (lv_at hl 4 rfl) ?_
                refine lv_istore (lv' := [(4, .int x6), (0, .ref (a 0)), (1, .int p1), (2, .int p2), (3, .int p3), (5, .int x7)]) hx hb dX9_at_86 hl (by decide) rfl (fun ls hl => ?_)
                refine lv_iinc (v := (x7 + 1)) (lv' := [(5, .int (x7 + 1)), (4, .int x6), (0, .ref (a 0)), (1, .int p1), (2, .int p2), (3, .int p3)]) hx hb dX9_at_88 hl (k := 5) rfl rfl (by decide) rfl (fun ls hl => ?_)
                refine lv_goto (tgt := 31) hx hb dX9_at_91 (by decide) ?_
                exact ih8 x6 (x7 + 1) hf H locs ls hP hD hS (lv_sub hl [2, 3, 4, 5, 1, 0] rfl)
              · have hf := (if_pos c14).symm.trans hf
                refine lv_aload_n hx hb dX9_at_65 rfl (lv_at hl 0 rfl) ?_
                refine r_get X hP 0 (wX9_g0_0 _ _ _ _) rfl inc_X9 15 (by decide) fl_X9_35 rfl dX9_at_66 ?_
                refine lv_bipush (v := 32) hx hb dX9_at_69 (by decide) ?_
                refine lv_iload hx hb dX9_at_71 (lv_at hl 5 rfl) ?_
                refine lv_iadd hx hb dX9_at_73 ?_
                obtain ⟨h15, hf⟩ := chk_in hf
                refine r_iald X hP 9 (wX9_g0_9 _ _ _ _) h15 dX9_at_74 ?_
                refine lv_iload_n hx hb dX9_at_75 rfl (lv_at hl 3 rfl) ?_
                refine lv_icmp_ne (tgt := 84) hx hb dX9_at_76 (by decide) (fun c16 => ?_) (fun c16 => ?_)
                · have hf := (if_neg c16).symm.trans hf
                  refine lv_iload hx hb dX9_at_84 (lv_at hl 4 rfl) ?_
                  refine lv_istore (lv' := [(4, .int x6), (0, .ref (a 0)), (1, .int p1), (2, .int p2), (3, .int p3), (5, .int x7)]) hx hb dX9_at_86 hl (by decide) rfl (fun ls hl => ?_)
                  refine lv_iinc (v := (x7 + 1)) (lv' := [(5, .int (x7 + 1)), (4, .int x6), (0, .ref (a 0)), (1, .int p1), (2, .int p2), (3, .int p3)]) hx hb dX9_at_88 hl (k := 5) rfl rfl (by decide) rfl (fun ls hl => ?_)
                  refine lv_goto (tgt := 31) hx hb dX9_at_91 (by decide) ?_
                  exact ih8 x6 (x7 + 1) hf H locs ls hP hD hS (lv_sub hl [2, 3, 4, 5, 1, 0] rfl)
                · have hf := (if_pos c16).symm.trans hf
                  refine lv_iload hx hb dX9_at_79 (lv_at hl 5 rfl) ?_
                  refine lv_goto (tgt := 86) hx hb dX9_at_81 (by decide) ?_
                  refine lv_istore (lv' := [(4, .int x7), (0, .ref (a 0)), (1, .int p1), (2, .int p2), (3, .int p3), (5, .int x7)]) hx hb dX9_at_86 hl (by decide) rfl (fun ls hl => ?_)
                  refine lv_iinc (v := (x7 + 1)) (lv' := [(5, .int (x7 + 1)), (4, .int x7), (0, .ref (a 0)), (1, .int p1), (2, .int p2), (3, .int p3)]) hx hb dX9_at_88 hl (k := 5) rfl rfl (by decide) rfl (fun ls hl => ?_)
                  refine lv_goto (tgt := 31) hx hb dX9_at_91 (by decide) ?_
                  exact ih8 x7 (x7 + 1) hf H locs ls hP hD hS (lv_sub hl [2, 3, 4, 5, 1, 0] rfl))
        exact L8 1000 (-9) 0 hf H locs ls hP hD hS (lv_sub hl [2, 3, 4, 5, 1, 0] rfl)
      · have hf := (if_neg c3).symm.trans hf
        refine lv_iconst (v := (-1)) hx hb dX9_at_12 (by decide) ?_
        have ho := Option.some.inj hf
        have hv : (-1) = out.1 := by rw [← ho]
        have hw := congrArg (fun o : Int32 × Sg => (wX9 E a o.2 tr)) ho
        exact r_iret X hr hP hS hv hw dX9_at_13
def rm_X9_back : Room := { frames := 1, cells := 0, slots := 0, locals := 22 }
theorem pv_X9_back : PkV RX9 yX9_back cX9_back 3 (some .int) 1 := ⟨im_X9_back, se_X9_back, ini_X9, cd_X9_back, by decide +kernel⟩
set_option maxHeartbeats 4000000 in
set_option maxRecDepth 100000 in
theorem c_X9_back (l : Launch) (E : Ev) (a : Nat → Nat) (σ : Sg) (tr : Int64) (p1 : Int32) {out : Int32 × Sg} (hf : f_X9_back σ tr p1 = some out) : MtI l yX9_back (wl yX9_back cX9_back 3 (some .int)) rm_X9_back E [.ref (a 0), .int p1] (wX9 E a σ tr) out.1 (wX9 E a out.2 tr) := by
  refine mt_of (QQ := (fun A => va_Qi (fun x (_ : Unit) => x = out.1) (fun _ t => QW E (wX9 E a out.2 tr) t) A)) (by decide) (Nat.le_of_ble_eq_true rfl) (fun p e s m below meth c A ls X hr hP hD hS hl => ?_)
  have hx := X.1.1
  have hb := X.1.2.1
  have hl : lv_has ls 3 [(0, .ref (a 0)), (1, .int p1)] := hl
  obtain ⟨H, hHe⟩ : ∃ H : Heap, H = s.heap := ⟨_, rfl⟩
  obtain ⟨locs, hLe⟩ : ∃ locs : List Loc, locs = [] := ⟨_, rfl⟩
  have hP : va_P E.1 vwCl (wX9 E a σ tr) H := by rw [hHe]; exact hP
  have hS : va_S A s.heap H locs := by rw [hHe, hLe]; exact hS
  rw [← hLe, show W p l e rm_X9_back s m ([.ref (a 0), .int p1] : List Value).toArray below meth c s.heap locs 0 0 = W p l e rm_X9_back s m ([.ref (a 0), .int p1] : List Value).toArray below meth c H locs 0 0 from by rw [hHe]]
  refine lv_iload_n hx hb dX9_back_0 rfl (lv_at hl 1 rfl) ?_
  refine lv_iconst (v := 0) hx hb dX9_back_1 (by decide) ?_
  refine lv_iconst (v := 1) hx hb dX9_back_2 (by decide) ?_
  obtain ⟨z1, hz1, hf⟩ := obd hf
  refine cS_roI X (As := [.int p1, .int 0, .int 1]) (rest := []) (c_X9_in l E p1 0 1 hz1) ps_X9_in ml_X9_55 ⟨rfl, rfl⟩ ⟨(Nat.le_of_ble_eq_true rfl), (Nat.le_of_ble_eq_true rfl)⟩ hP hD hS (is := []) (wc := []) rfl rfl rfl hl.1 rfl (Nat.le_of_ble_eq_true rfl) dX9_back_3 ⟨Nat.le_refl _, Nat.le_refl _⟩ (fun H locs hP hS => ?_)
  refine lv_if_ne (tgt := 11) hx hb dX9_back_6 (by decide) (fun c2 => ?_) (fun c2 => ?_)
  · have hf := (if_neg c2).symm.trans hf
    refine lv_aload_n hx hb dX9_back_11 rfl (lv_at hl 0 rfl) ?_
    refine r_get X hP 0 (wX9_g0_0 _ _ _ _) rfl inc_X9 7 (by decide) fl_X9_25 rfl dX9_back_12 ?_
    refine lv_iload_n hx hb dX9_back_15 rfl (lv_at hl 1 rfl) ?_
    obtain ⟨h3, hf⟩ := chk_in hf
    refine r_zald X hP 6 (wX9_g0_6 _ _ _ _) h3 dX9_back_16 ?_
    refine lv_if_ne (tgt := 23) hx hb dX9_back_17 (by decide) (fun c4 => ?_) (fun c4 => ?_)
    · have hf := (if_neg c4).symm.trans hf
      refine lv_iconst (v := 0) hx hb dX9_back_23 (by decide) ?_
      refine lv_istore_n (lv' := [(2, .int 0), (0, .ref (a 0)), (1, .int p1)]) hx hb dX9_back_24 rfl hl (by decide) rfl (fun ls hl => ?_)
      have J1 : ∀ (g5 : Sg), j_X9_back_1 g5 = some out → ∀ (H : Heap) (locs : List Loc) (ls : Array Slot), va_P E.1 vwCl (wX9 E a g5 tr) H → va_D A (wX9 E a g5 tr) → va_S A s.heap H locs → lv_has ls 3 [(0, .ref (a 0))] → W p l e rm_X9_back s m ([.ref (a 0), .int p1] : List Value).toArray below meth c H locs 0 0 (MQ below (va_Qi (fun x (_ : Unit) => x = out.1) (fun _ t => QW E (wX9 E a out.2 tr) t) A) ([.ref (a 0), .int p1] : List Value).toArray s 0 0 A) (F0 m 54 ls []) := by
        intro g5 hf H locs ls hP hD hS hl
        refine lv_aload_n hx hb dX9_back_54 rfl (lv_at hl 0 rfl) ?_
        refine r_get X hP 0 (wX9_g0_0 _ _ _ _) rfl inc_X9 5 (by decide) fl_X9_19 rfl dX9_back_55 ?_
        refine lv_iconst (v := 0) hx hb dX9_back_58 (by decide) ?_
        obtain ⟨h6, hf⟩ := chk_in hf
        refine r_iald X hP 4 (wX9_g0_4 _ _ _ _) h6 dX9_back_59 ?_
        have ho := Option.some.inj hf
        have hv : (g5 4 (0 : Int32).toNatClampNeg) = out.1 := by rw [← ho]
        have hw := congrArg (fun o : Int32 × Sg => (wX9 E a o.2 tr)) ho
        exact r_iret X hr hP hS hv hw dX9_back_60
      have L10 := lc2_ind (o := out) (step := (s_X9_back_25 p1 j_X9_back_1)) (fun x7 g8 => ∀ (H : Heap) (locs : List Loc) (ls : Array Slot), va_P E.1 vwCl (wX9 E a g8 tr) H → va_D A (wX9 E a g8 tr) → va_S A s.heap H locs → lv_has ls 3 [(0, .ref (a 0)), (1, .int p1), (2, .int x7)] → W p l e rm_X9_back s m ([.ref (a 0), .int p1] : List Value).toArray below meth c H locs 0 0 (MQ below (va_Qi (fun x (_ : Unit) => x = out.1) (fun _ t => QW E (wX9 E a out.2 tr) t) A) ([.ref (a 0), .int p1] : List Value).toArray s 0 0 A) (F0 m 25 ls [])) (fun x7 g8 k9 ih10 hf H locs ls hP hD hS hl => by
        refine lv_iload_n hx hb dX9_back_25 rfl (lv_at hl 2 rfl) ?_
        refine lv_bipush (v := 40) hx hb dX9_back_26 (by decide) ?_
        refine lv_icmp_ge (tgt := 54) hx hb dX9_back_28 (by decide) (fun c11 => ?_) (fun c11 => ?_)
        · have hf := (if_pos c11).symm.trans hf
          exact J1 g8 hf H locs ls hP hD hS (lv_sub hl [0] rfl)
        · have hf := (if_neg c11).symm.trans hf
          refine lv_aload_n hx hb dX9_back_31 rfl (lv_at hl 0 rfl) ?_
          refine r_get X hP 0 (wX9_g0_0 _ _ _ _) rfl inc_X9 5 (by decide) fl_X9_19 rfl dX9_back_32 ?_
          refine lv_iload_n hx hb dX9_back_35 rfl (lv_at hl 2 rfl) ?_
          refine lv_aload_n hx hb dX9_back_36 rfl (lv_at hl 0 rfl) ?_
          refine r_get X hP 0 (wX9_g0_0 _ _ _ _) rfl inc_X9 6 (by decide) fl_X9_22 rfl dX9_back_37 ?_
          refine lv_bipush (v := 40) hx hb dX9_back_40 (by decide) ?_
          refine lv_iload_n hx hb dX9_back_42 rfl (lv_at hl 1 rfl) ?_
          refine lv_imul hx hb dX9_back_43 ?_
          refine lv_iload_n hx hb dX9_back_44 rfl (lv_at hl 2 rfl) ?_
          refine lv_iadd hx hb dX9_back_45 ?_
          obtain ⟨h12, hf⟩ := chk_in hf
          refine r_iald X hP 5 (wX9_g0_5 _ _ _ _) h12 dX9_back_46 ?_
          obtain ⟨h13, hf⟩ := chk_in hf
          refine r_iast X hP hD hS 4 (wX9_g0_4 _ _ _ _) h13 (wX9_t0_4 _ _ _ _ _ _) dX9_back_47 (fun H locs hP hD hS => ?_)
          refine lv_iinc (v := (x7 + 1)) (lv' := [(2, .int (x7 + 1)), (0, .ref (a 0)), (1, .int p1)]) hx hb dX9_back_48 hl (k := 2) rfl rfl (by decide) rfl (fun ls hl => ?_)
          refine lv_goto (tgt := 25) hx hb dX9_back_51 (by decide) ?_
          exact ih10 (x7 + 1) (sg_st g8 4 (x7 : Int32).toNatClampNeg (g8 5 (((40 * p1) + x7) : Int32).toNatClampNeg)) hf H locs ls hP hD hS (lv_sub hl [1, 2, 0] rfl))
      exact L10 1000 0 σ hf H locs ls hP hD hS (lv_sub hl [1, 2, 0] rfl)
    · have hf := (if_pos c4).symm.trans hf
      refine lv_bipush (v := (-2)) hx hb dX9_back_20 (by decide) ?_
      have ho := Option.some.inj hf
      have hv : (-2) = out.1 := by rw [← ho]
      have hw := congrArg (fun o : Int32 × Sg => (wX9 E a o.2 tr)) ho
      exact r_iret X hr hP hS hv hw dX9_back_22
  · have hf := (if_pos c2).symm.trans hf
    refine lv_iconst (v := (-1)) hx hb dX9_back_9 (by decide) ?_
    have ho := Option.some.inj hf
    have hv : (-1) = out.1 := by rw [← ho]
    have hw := congrArg (fun o : Int32 × Sg => (wX9 E a o.2 tr)) ho
    exact r_iret X hr hP hS hv hw dX9_back_10
def rm_X9_bends : Room := { frames := 0, cells := 0, slots := 0, locals := 0 }
theorem pv_X9_bends : PkV RX9 yX9_bends cX9_bends 9 (some .boolean) 4 := ⟨im_X9_bends, se_X9_bends, ini_X9, cd_X9_bends, by decide +kernel⟩
set_option maxHeartbeats 4000000 in
set_option maxRecDepth 100000 in
theorem c_X9_bends (l : Launch) (E : Ev) (a : Nat → Nat) (σ : Sg) (tr : Int64) (p1 : Int32) (p2 : Int32) (p3 : Int32) (p4 : Int32) {out : Int32} (hf : f_X9_bends σ tr p1 p2 p3 p4 = some out) : MtI l yX9_bends (wl yX9_bends cX9_bends 9 (some .boolean)) rm_X9_bends E [.ref (a 0), .int p1, .int p2, .int p3, .int p4] (wX9 E a σ tr) out (wX9 E a σ tr) := by
  refine mt_of (QQ := (fun A => va_Qi (fun x (_ : Unit) => x = out) (fun _ t => QW E (wX9 E a σ tr) t) A)) (by decide) (Nat.le_of_ble_eq_true rfl) (fun p e s m below meth c A ls X hr hP hD hS hl => ?_)
  have hx := X.1.1
  have hb := X.1.2.1
  have hl : lv_has ls 9 [(0, .ref (a 0)), (1, .int p1), (2, .int p2), (3, .int p3), (4, .int p4)] := hl
  obtain ⟨H, hHe⟩ : ∃ H : Heap, H = s.heap := ⟨_, rfl⟩
  obtain ⟨locs, hLe⟩ : ∃ locs : List Loc, locs = [] := ⟨_, rfl⟩
  have hP : va_P E.1 vwCl (wX9 E a σ tr) H := by rw [hHe]; exact hP
  have hS : va_S A s.heap H locs := by rw [hHe, hLe]; exact hS
  rw [← hLe, show W p l e rm_X9_bends s m ([.ref (a 0), .int p1, .int p2, .int p3, .int p4] : List Value).toArray below meth c s.heap locs 0 0 = W p l e rm_X9_bends s m ([.ref (a 0), .int p1, .int p2, .int p3, .int p4] : List Value).toArray below meth c H locs 0 0 from by rw [hHe]]
  refine lv_iload_n hx hb dX9_bends_0 rfl (lv_at hl 1 rfl) ?_
  have J1 : ∀ (x1 : Int32), j_X9_bends_1 σ p1 p2 p3 p4 x1 = some out → ∀ (H : Heap) (locs : List Loc) (ls : Array Slot), va_P E.1 vwCl (wX9 E a σ tr) H → va_D A (wX9 E a σ tr) → va_S A s.heap H locs → lv_has ls 9 [(0, .ref (a 0)), (1, .int p1), (2, .int p2), (3, .int p3), (4, .int p4)] → W p l e rm_X9_bends s m ([.ref (a 0), .int p1, .int p2, .int p3, .int p4] : List Value).toArray below meth c H locs 0 0 (MQ below (va_Qi (fun x (_ : Unit) => x = out) (fun _ t => QW E (wX9 E a σ tr) t) A) ([.ref (a 0), .int p1, .int p2, .int p3, .int p4] : List Value).toArray s 0 0 A) (F0 m 10 ls [.int x1]) := by
    intro x1 hf H locs ls hP hD hS hl
    refine lv_istore (lv' := [(5, .int x1), (0, .ref (a 0)), (1, .int p1), (2, .int p2), (3, .int p3), (4, .int p4)]) hx hb dX9_bends_10 hl (by decide) rfl (fun ls hl => ?_)
    refine lv_iload_n hx hb dX9_bends_12 rfl (lv_at hl 2 rfl) ?_
    have J2 : ∀ (x2 : Int32), j_X9_bends_2 σ p2 p3 p4 x1 x2 = some out → ∀ (H : Heap) (locs : List Loc) (ls : Array Slot), va_P E.1 vwCl (wX9 E a σ tr) H → va_D A (wX9 E a σ tr) → va_S A s.heap H locs → lv_has ls 9 [(0, .ref (a 0)), (2, .int p2), (3, .int p3), (4, .int p4), (5, .int x1)] → W p l e rm_X9_bends s m ([.ref (a 0), .int p1, .int p2, .int p3, .int p4] : List Value).toArray below meth c H locs 0 0 (MQ below (va_Qi (fun x (_ : Unit) => x = out) (fun _ t => QW E (wX9 E a σ tr) t) A) ([.ref (a 0), .int p1, .int p2, .int p3, .int p4] : List Value).toArray s 0 0 A) (F0 m 22 ls [.int x2]) := by
      intro x2 hf H locs ls hP hD hS hl
      refine lv_istore (lv' := [(6, .int x2), (0, .ref (a 0)), (2, .int p2), (3, .int p3), (4, .int p4), (5, .int x1)]) hx hb dX9_bends_22 hl (by decide) rfl (fun ls hl => ?_)
      refine lv_aload_n hx hb dX9_bends_24 rfl (lv_at hl 1 rfl) ?_
      refine r_get X hP 0 (wX9_g0_0 _ _ _ _) rfl inc_X9 15 (by decide) fl_X9_35 rfl dX9_bends_25 ?_
      refine lv_iload hx hb dX9_bends_28 (lv_at hl 5 rfl) ?_
      refine lv_iload_n hx hb dX9_bends_30 rfl (lv_at hl 3 rfl) ?_
      refine lv_iadd hx hb dX9_bends_31 ?_
      obtain ⟨h3, hf⟩ := chk_in hf
      refine r_iald X hP 9 (wX9_g0_9 _ _ _ _) h3 dX9_bends_32 ?_
      refine lv_istore (lv' := [(7, .int (σ 9 ((x1 + p3) : Int32).toNatClampNeg)), (6, .int x2), (0, .ref (a 0)), (2, .int p2), (3, .int p3), (4, .int p4), (5, .int x1)]) hx hb dX9_bends_33 hl (by decide) rfl (fun ls hl => ?_)
      refine lv_aload_n hx hb dX9_bends_35 rfl (lv_at hl 2 rfl) ?_
      refine r_get X hP 0 (wX9_g0_0 _ _ _ _) rfl inc_X9 15 (by decide) fl_X9_35 rfl dX9_bends_36 ?_
      refine lv_iload hx hb dX9_bends_39 (lv_at hl 6 rfl) ?_
      refine lv_iload hx hb dX9_bends_41 (lv_at hl 5 rfl) ?_
      refine lv_iadd hx hb dX9_bends_43 ?_
      obtain ⟨h4, hf⟩ := chk_in hf
      refine r_iald X hP 9 (wX9_g0_9 _ _ _ _) h4 dX9_bends_44 ?_
      refine lv_istore (lv' := [(8, .int (σ 9 ((x1 + p4) : Int32).toNatClampNeg)), (7, .int (σ 9 ((x1 + p3) : Int32).toNatClampNeg)), (6, .int x2), (0, .ref (a 0)), (2, .int p2), (3, .int p3), (4, .int p4), (5, .int x1)]) hx hb dX9_bends_45 hl (by decide) rfl (fun ls hl => ?_)
      refine lv_aload_n hx hb dX9_bends_47 rfl (lv_at hl 3 rfl) ?_
      refine r_get X hP 0 (wX9_g0_0 _ _ _ _) rfl inc_X9 15 (by decide) fl_X9_35 rfl dX9_bends_48 ?_
      refine lv_iload hx hb dX9_bends_51 (lv_at hl 2 rfl) ?_
      refine lv_iload_n hx hb dX9_bends_53 rfl (lv_at hl 5 rfl) ?_
      refine lv_iadd hx hb dX9_bends_54 ?_
      obtain ⟨h5, hf⟩ := chk_in hf
      refine r_iald X hP 9 (wX9_g0_9 _ _ _ _) h5 dX9_bends_55 ?_
      refine lv_aload_n hx hb dX9_bends_56 rfl (lv_at hl 3 rfl) ?_
      refine r_get X hP 0 (wX9_g0_0 _ _ _ _) rfl inc_X9 15 (by decide) fl_X9_35 rfl dX9_bends_57 ?_
      refine lv_iload hx hb dX9_bends_60 (lv_at hl 2 rfl) ?_
      refine lv_iload hx hb dX9_bends_62 (lv_at hl 6 rfl) ?_
      refine lv_iadd hx hb dX9_bends_64 ?_
      obtain ⟨h6, hf⟩ := chk_in hf
      refine r_iald X hP 9 (wX9_g0_9 _ _ _ _) h6 dX9_bends_65 ?_
      refine lv_icmp_ne (tgt := 101) hx hb dX9_bends_66 (by decide) (fun c7 => ?_) (fun c7 => ?_)
      · have hf := (if_neg c7).symm.trans hf
        refine lv_iconst (v := 0) hx hb dX9_bends_101 (by decide) ?_
        have ho := Option.some.inj hf
        exact r_zret X hr hP hS rfl ho rfl dX9_bends_102
      · have hf := (if_pos c7).symm.trans hf
        refine lv_iload hx hb dX9_bends_69 (lv_at hl 1 rfl) ?_
        refine lv_iload_n hx hb dX9_bends_71 rfl (lv_at hl 4 rfl) ?_
        refine lv_iconst (v := 1) hx hb dX9_bends_72 (by decide) ?_
        refine lv_isub hx hb dX9_bends_73 ?_
        have J3 : j_X9_bends_3 σ p2 p3 p4 x1 = some out → ∀ (H : Heap) (locs : List Loc) (ls : Array Slot), va_P E.1 vwCl (wX9 E a σ tr) H → va_D A (wX9 E a σ tr) → va_S A s.heap H locs → lv_has ls 9 [(2, .int p2), (7, .int (σ 9 ((x1 + p3) : Int32).toNatClampNeg)), (8, .int (σ 9 ((x1 + p4) : Int32).toNatClampNeg))] → W p l e rm_X9_bends s m ([.ref (a 0), .int p1, .int p2, .int p3, .int p4] : List Value).toArray below meth c H locs 0 0 (MQ below (va_Qi (fun x (_ : Unit) => x = out) (fun _ t => QW E (wX9 E a σ tr) t) A) ([.ref (a 0), .int p1, .int p2, .int p3, .int p4] : List Value).toArray s 0 0 A) (F0 m 83 ls []) := by
          intro hf H locs ls hP hD hS hl
          refine lv_iload hx hb dX9_bends_83 (lv_at hl 1 rfl) ?_
          refine lv_iload_n hx hb dX9_bends_85 rfl (lv_at hl 0 rfl) ?_
          refine lv_icmp_ne (tgt := 101) hx hb dX9_bends_86 (by decide) (fun c8 => ?_) (fun c8 => ?_)
          · have hf := (if_neg c8).symm.trans hf
            refine lv_iconst (v := 0) hx hb dX9_bends_101 (by decide) ?_
            have ho := Option.some.inj hf
            exact r_zret X hr hP hS rfl ho rfl dX9_bends_102
          · have hf := (if_pos c8).symm.trans hf
            refine lv_iload hx hb dX9_bends_89 (lv_at hl 2 rfl) ?_
            refine lv_iload_n hx hb dX9_bends_91 rfl (lv_at hl 0 rfl) ?_
            refine lv_iconst (v := 1) hx hb dX9_bends_92 (by decide) ?_
            refine lv_isub hx hb dX9_bends_93 ?_
            refine lv_icmp_ne (tgt := 101) hx hb dX9_bends_94 (by decide) (fun c9 => ?_) (fun c9 => ?_)
            · have hf := (if_neg c9).symm.trans hf
              refine lv_iconst (v := 0) hx hb dX9_bends_101 (by decide) ?_
              have ho := Option.some.inj hf
              exact r_zret X hr hP hS rfl ho rfl dX9_bends_102
            · have hf := (if_pos c9).symm.trans hf
              refine lv_iconst (v := 1) hx hb dX9_bends_97 (by decide) ?_
              refine lv_goto (tgt := 102) hx hb dX9_bends_98 (by decide) ?_
              have ho := Option.some.inj hf
              exact r_zret X hr hP hS rfl ho rfl dX9_bends_102
        refine lv_icmp_ne (tgt := 83) hx hb dX9_bends_74 (by decide) (fun c10 => ?_) (fun c10 => ?_)
        · have hf := (if_neg c10).symm.trans hf
          exact J3 hf H locs ls hP hD hS (lv_sub hl [4, 1, 0] rfl)
        · have hf := (if_pos c10).symm.trans hf
          refine lv_iload hx hb dX9_bends_77 (lv_at hl 0 rfl) ?_
          refine lv_iload_n hx hb dX9_bends_79 rfl (lv_at hl 4 rfl) ?_
          refine lv_icmp_eq (tgt := 97) hx hb dX9_bends_80 (by decide) (fun c11 => ?_) (fun c11 => ?_)
          · have hf := (if_pos c11).symm.trans hf
            refine lv_iconst (v := 1) hx hb dX9_bends_97 (by decide) ?_
            refine lv_goto (tgt := 102) hx hb dX9_bends_98 (by decide) ?_
            have ho := Option.some.inj hf
            exact r_zret X hr hP hS rfl ho rfl dX9_bends_102
          · have hf := (if_neg c11).symm.trans hf
            exact J3 hf H locs ls hP hD hS (lv_sub hl [4, 1, 0] rfl)
    refine lv_if_ne (tgt := 21) hx hb dX9_bends_13 (by decide) (fun c12 => ?_) (fun c12 => ?_)
    · have hf := (if_neg c12).symm.trans hf
      refine lv_iconst (v := 0) hx hb dX9_bends_21 (by decide) ?_
      exact J2 0 hf H locs ls hP hD hS (lv_sub hl [1, 3, 4, 5, 0] rfl)
    · have hf := (if_pos c12).symm.trans hf
      refine lv_bipush (v := 16) hx hb dX9_bends_16 (by decide) ?_
      refine lv_goto (tgt := 22) hx hb dX9_bends_18 (by decide) ?_
      exact J2 16 hf H locs ls hP hD hS (lv_sub hl [1, 3, 4, 5, 0] rfl)
  refine lv_if_ne (tgt := 8) hx hb dX9_bends_1 (by decide) (fun c13 => ?_) (fun c13 => ?_)
  · have hf := (if_neg c13).symm.trans hf
    refine lv_bipush (v := 16) hx hb dX9_bends_8 (by decide) ?_
    exact J1 16 hf H locs ls hP hD hS (lv_sub hl [0, 1, 2, 3, 4] rfl)
  · have hf := (if_pos c13).symm.trans hf
    refine lv_iconst (v := 0) hx hb dX9_bends_4 (by decide) ?_
    refine lv_goto (tgt := 10) hx hb dX9_bends_5 (by decide) ?_
    exact J1 0 hf H locs ls hP hD hS (lv_sub hl [0, 1, 2, 3, 4] rfl)
def rm_X9_neighbour : Room := { frames := 1, cells := 0, slots := 0, locals := 20 }
theorem pv_X9_neighbour : PkV RX9 yX9_neighbour cX9_neighbour 4 (some .int) 2 := ⟨im_X9_neighbour, se_X9_neighbour, ini_X9, cd_X9_neighbour, by decide +kernel⟩
set_option maxHeartbeats 4000000 in
set_option maxRecDepth 100000 in
theorem c_X9_neighbour (l : Launch) (E : Ev) (a : Nat → Nat) (σ : Sg) (tr : Int64) (p1 : Int32) (p2 : Int32) {out : Int32} (hf : f_X9_neighbour σ tr p1 p2 = some out) : MtI l yX9_neighbour (wl yX9_neighbour cX9_neighbour 4 (some .int)) rm_X9_neighbour E [.ref (a 0), .int p1, .int p2] (wX9 E a σ tr) out (wX9 E a σ tr) := by
  refine mt_of (QQ := (fun A => va_Qi (fun x (_ : Unit) => x = out) (fun _ t => QW E (wX9 E a σ tr) t) A)) (by decide) (Nat.le_of_ble_eq_true rfl) (fun p e s m below meth c A ls X hr hP hD hS hl => ?_)
  have hx := X.1.1
  have hb := X.1.2.1
  have hl : lv_has ls 4 [(0, .ref (a 0)), (1, .int p1), (2, .int p2)] := hl
  obtain ⟨H, hHe⟩ : ∃ H : Heap, H = s.heap := ⟨_, rfl⟩
  obtain ⟨locs, hLe⟩ : ∃ locs : List Loc, locs = [] := ⟨_, rfl⟩
  have hP : va_P E.1 vwCl (wX9 E a σ tr) H := by rw [hHe]; exact hP
  have hS : va_S A s.heap H locs := by rw [hHe, hLe]; exact hS
  rw [← hLe, show W p l e rm_X9_neighbour s m ([.ref (a 0), .int p1, .int p2] : List Value).toArray below meth c s.heap locs 0 0 = W p l e rm_X9_neighbour s m ([.ref (a 0), .int p1, .int p2] : List Value).toArray below meth c H locs 0 0 from by rw [hHe]]
  refine lv_aload_n hx hb dX9_neighbour_0 rfl (lv_at hl 0 rfl) ?_
  refine r_get X hP 0 (wX9_g0_0 _ _ _ _) rfl inc_X9 3 (by decide) fl_X9_13 rfl dX9_neighbour_1 ?_
  refine lv_iconst (v := 0) hx hb dX9_neighbour_4 (by decide) ?_
  obtain ⟨h1, hf⟩ := chk_in hf
  refine r_iald X hP 2 (wX9_g0_2 _ _ _ _) h1 dX9_neighbour_5 ?_
  refine lv_istore_n (lv' := [(3, .int (σ 2 (0 : Int32).toNatClampNeg)), (0, .ref (a 0)), (1, .int p1), (2, .int p2)]) hx hb dX9_neighbour_6 rfl hl (by decide) rfl (fun ls hl => ?_)
  refine lv_iload_n hx hb dX9_neighbour_7 rfl (lv_at hl 3 rfl) ?_
  refine lv_if_ne (tgt := 29) hx hb dX9_neighbour_8 (by decide) (fun c2 => ?_) (fun c2 => ?_)
  · have hf := (if_neg c2).symm.trans hf
    refine lv_iload_n hx hb dX9_neighbour_29 rfl (lv_at hl 2 rfl) ?_
    refine lv_iload_n hx hb dX9_neighbour_30 rfl (lv_at hl 0 rfl) ?_
    refine lv_iadd hx hb dX9_neighbour_31 ?_
    refine lv_aload_n hx hb dX9_neighbour_32 rfl (lv_at hl 1 rfl) ?_
    obtain ⟨z3, hz3, hf⟩ := obd hf
    refine cV_allI X (As := []) (rest := [.int (p1 + (σ 2 (0 : Int32).toNatClampNeg))]) (c_X9_cells l E a σ tr hz3) pv_X9_cells ml_X9_51 ⟨rfl, rfl⟩ ⟨(Nat.le_of_ble_eq_true rfl), (Nat.le_of_ble_eq_true rfl)⟩ hP hD hS (wX9_g0_0 _ _ _ _) rfl (wX9_adr _ _ _ _ _ _) rfl hl.1 rfl (Nat.le_of_ble_eq_true rfl) dX9_neighbour_33 ⟨Nat.le_refl _, Nat.le_refl _⟩ (fun H locs hP hD hS => ?_)
    refine lv_icmp_ge (tgt := 45) hx hb dX9_neighbour_36 (by decide) (fun c4 => ?_) (fun c4 => ?_)
    · have hf := (if_pos c4).symm.trans hf
      refine lv_bipush (v := (-9)) hx hb dX9_neighbour_45 (by decide) ?_
      have ho := Option.some.inj hf
      exact r_iret X hr hP hS ho rfl dX9_neighbour_47
    · have hf := (if_neg c4).symm.trans hf
      refine lv_iload_n hx hb dX9_neighbour_39 rfl (lv_at hl 2 rfl) ?_
      refine lv_iload_n hx hb dX9_neighbour_40 rfl (lv_at hl 0 rfl) ?_
      refine lv_iadd hx hb dX9_neighbour_41 ?_
      refine lv_goto (tgt := 47) hx hb dX9_neighbour_42 (by decide) ?_
      have ho := Option.some.inj hf
      exact r_iret X hr hP hS ho rfl dX9_neighbour_47
  · have hf := (if_pos c2).symm.trans hf
    refine lv_iload_n hx hb dX9_neighbour_11 rfl (lv_at hl 2 rfl) ?_
    refine lv_iload_n hx hb dX9_neighbour_12 rfl (lv_at hl 0 rfl) ?_
    obtain ⟨h5, hf⟩ := cnz_in hf
    refine lv_irem hx hb dX9_neighbour_13 h5 ?_
    refine lv_iload_n hx hb dX9_neighbour_14 rfl (lv_at hl 0 rfl) ?_
    refine lv_iconst (v := 1) hx hb dX9_neighbour_15 (by decide) ?_
    refine lv_isub hx hb dX9_neighbour_16 ?_
    refine lv_icmp_ge (tgt := 26) hx hb dX9_neighbour_17 (by decide) (fun c6 => ?_) (fun c6 => ?_)
    · have hf := (if_pos c6).symm.trans hf
      refine lv_bipush (v := (-9)) hx hb dX9_neighbour_26 (by decide) ?_
      have ho := Option.some.inj hf
      exact r_iret X hr hP hS ho rfl dX9_neighbour_28
    · have hf := (if_neg c6).symm.trans hf
      refine lv_iload_n hx hb dX9_neighbour_20 rfl (lv_at hl 2 rfl) ?_
      refine lv_iconst (v := 1) hx hb dX9_neighbour_21 (by decide) ?_
      refine lv_iadd hx hb dX9_neighbour_22 ?_
      refine lv_goto (tgt := 28) hx hb dX9_neighbour_23 (by decide) ?_
      have ho := Option.some.inj hf
      exact r_iret X hr hP hS ho rfl dX9_neighbour_28
def rm_X9_bendsAll : Room := { frames := 2, cells := 0, slots := 0, locals := 43 }
theorem pv_X9_bendsAll : PkV RX9 yX9_bendsAll cX9_bendsAll 8 (some .int) 2 := ⟨im_X9_bendsAll, se_X9_bendsAll, ini_X9, cd_X9_bendsAll, by decide +kernel⟩
set_option maxHeartbeats 4000000 in
set_option maxRecDepth 100000 in
theorem c_X9_bendsAll (l : Launch) (E : Ev) (a : Nat → Nat) (σ : Sg) (tr : Int64) (p1 : Int32) (p2 : Int32) {out : Int32 × Sg} (hf : f_X9_bendsAll σ tr p1 p2 = some out) : MtI l yX9_bendsAll (wl yX9_bendsAll cX9_bendsAll 8 (some .int)) rm_X9_bendsAll E [.ref (a 0), .int p1, .int p2] (wX9 E a σ tr) out.1 (wX9 E a out.2 tr) := by
  refine mt_of (QQ := (fun A => va_Qi (fun x (_ : Unit) => x = out.1) (fun _ t => QW E (wX9 E a out.2 tr) t) A)) (by decide) (Nat.le_of_ble_eq_true rfl) (fun p e s m below meth c A ls X hr hP hD hS hl => ?_)
  have hx := X.1.1
  have hb := X.1.2.1
  have hl : lv_has ls 8 [(0, .ref (a 0)), (1, .int p1), (2, .int p2)] := hl
  obtain ⟨H, hHe⟩ : ∃ H : Heap, H = s.heap := ⟨_, rfl⟩
  obtain ⟨locs, hLe⟩ : ∃ locs : List Loc, locs = [] := ⟨_, rfl⟩
  have hP : va_P E.1 vwCl (wX9 E a σ tr) H := by rw [hHe]; exact hP
  have hS : va_S A s.heap H locs := by rw [hHe, hLe]; exact hS
  rw [← hLe, show W p l e rm_X9_bendsAll s m ([.ref (a 0), .int p1, .int p2] : List Value).toArray below meth c s.heap locs 0 0 = W p l e rm_X9_bendsAll s m ([.ref (a 0), .int p1, .int p2] : List Value).toArray below meth c H locs 0 0 from by rw [hHe]]
  refine lv_iconst (v := 0) hx hb dX9_bendsAll_0 (by decide) ?_
  refine lv_istore_n (lv' := [(3, .int 0), (0, .ref (a 0)), (1, .int p1), (2, .int p2)]) hx hb dX9_bendsAll_1 rfl hl (by decide) rfl (fun ls hl => ?_)
  refine lv_iconst (v := 0) hx hb dX9_bendsAll_2 (by decide) ?_
  refine lv_istore (lv' := [(4, .int 0), (3, .int 0), (0, .ref (a 0)), (1, .int p1), (2, .int p2)]) hx hb dX9_bendsAll_3 hl (by decide) rfl (fun ls hl => ?_)
  have L4 := lc3_ind (o := out) (step := (s_X9_bendsAll_5 tr p1 p2)) (fun x1 x2 g3 => ∀ (H : Heap) (locs : List Loc) (ls : Array Slot), va_P E.1 vwCl (wX9 E a g3 tr) H → va_D A (wX9 E a g3 tr) → va_S A s.heap H locs → lv_has ls 8 [(0, .ref (a 0)), (1, .int p1), (2, .int p2), (3, .int x1), (4, .int x2)] → W p l e rm_X9_bendsAll s m ([.ref (a 0), .int p1, .int p2] : List Value).toArray below meth c H locs 0 0 (MQ below (va_Qi (fun x (_ : Unit) => x = out.1) (fun _ t => QW E (wX9 E a out.2 tr) t) A) ([.ref (a 0), .int p1, .int p2] : List Value).toArray s 0 0 A) (F0 m 5 ls [])) (fun x1 x2 g3 k4 ih4 hf H locs ls hP hD hS hl => by
    refine lv_iload hx hb dX9_bendsAll_5 (lv_at hl 4 rfl) ?_
    refine lv_aload_n hx hb dX9_bendsAll_7 rfl (lv_at hl 0 rfl) ?_
    obtain ⟨z5, hz5, hf⟩ := obd hf
    refine cV_allI X (As := []) (rest := [.int x2]) (c_X9_cells l E a g3 tr hz5) pv_X9_cells ml_X9_51 ⟨rfl, rfl⟩ ⟨(Nat.le_of_ble_eq_true rfl), (Nat.le_of_ble_eq_true rfl)⟩ hP hD hS (wX9_g0_0 _ _ _ _) rfl (wX9_adr _ _ _ _ _ _) rfl hl.1 rfl (Nat.le_of_ble_eq_true rfl) dX9_bendsAll_8 ⟨Nat.le_refl _, Nat.le_refl _⟩ (fun H locs hP hD hS => ?_)
    refine lv_icmp_ge (tgt := 123) hx hb dX9_bendsAll_11 (by decide) (fun c6 => ?_) (fun c6 => ?_)
    · have hf := (if_pos c6).symm.trans hf
      refine lv_iload_n hx hb dX9_bendsAll_123 rfl (lv_at hl 3 rfl) ?_
      have ho := Option.some.inj hf
      have hv : x1 = out.1 := by rw [← ho]
      have hw := congrArg (fun o : Int32 × Sg => (wX9 E a o.2 tr)) ho
      exact r_iret X hr hP hS hv hw dX9_bendsAll_124
    · have hf := (if_neg c6).symm.trans hf
      refine lv_iconst (v := 0) hx hb dX9_bendsAll_14 (by decide) ?_
      refine lv_istore (lv' := [(5, .int 0), (0, .ref (a 0)), (1, .int p1), (2, .int p2), (3, .int x1), (4, .int x2)]) hx hb dX9_bendsAll_15 hl (by decide) rfl (fun ls hl => ?_)
      have L10 := lc3_ind (o := out) (step := (s_X9_bendsAll_17 tr p1 p2 x2 k4)) (fun x7 x8 g9 => ∀ (H : Heap) (locs : List Loc) (ls : Array Slot), va_P E.1 vwCl (wX9 E a g9 tr) H → va_D A (wX9 E a g9 tr) → va_S A s.heap H locs → lv_has ls 8 [(0, .ref (a 0)), (1, .int p1), (2, .int p2), (3, .int x7), (4, .int x2), (5, .int x8)] → W p l e rm_X9_bendsAll s m ([.ref (a 0), .int p1, .int p2] : List Value).toArray below meth c H locs 0 0 (MQ below (va_Qi (fun x (_ : Unit) => x = out.1) (fun _ t => QW E (wX9 E a out.2 tr) t) A) ([.ref (a 0), .int p1, .int p2] : List Value).toArray s 0 0 A) (F0 m 17 ls [])) (fun x7 x8 g9 k10 ih10 hf H locs ls hP hD hS hl => by
        refine lv_iload hx hb dX9_bendsAll_17 (lv_at hl 5 rfl) ?_
        refine lv_iconst (v := 2) hx hb dX9_bendsAll_19 (by decide) ?_
        refine lv_icmp_ge (tgt := 117) hx hb dX9_bendsAll_20 (by decide) (fun c11 => ?_) (fun c11 => ?_)
        · have hf := (if_pos c11).symm.trans hf
          refine lv_iinc (v := (x2 + 1)) (lv' := [(4, .int (x2 + 1)), (0, .ref (a 0)), (1, .int p1), (2, .int p2), (3, .int x7), (5, .int x8)]) hx hb dX9_bendsAll_117 hl (k := 4) rfl rfl (by decide) rfl (fun ls hl => ?_)
          refine lv_goto (tgt := 5) hx hb dX9_bendsAll_120 (by decide) ?_
          exact ih4 x7 (x2 + 1) g9 hf H locs ls hP hD hS (lv_sub hl [1, 2, 3, 4, 0] rfl)
        · have hf := (if_neg c11).symm.trans hf
          refine lv_aload_n hx hb dX9_bendsAll_23 rfl (lv_at hl 0 rfl) ?_
          refine lv_iload hx hb dX9_bendsAll_24 (lv_at hl 4 rfl) ?_
          refine lv_iload hx hb dX9_bendsAll_26 (lv_at hl 5 rfl) ?_
          obtain ⟨z12, hz12, hf⟩ := obd hf
          refine cV_allI X (As := [.int x2, .int x8]) (rest := []) (c_X9_neighbour l E a g9 tr x2 x8 hz12) pv_X9_neighbour ml_X9_154 ⟨rfl, rfl⟩ ⟨(Nat.le_of_ble_eq_true rfl), (Nat.le_of_ble_eq_true rfl)⟩ hP hD hS (wX9_g0_0 _ _ _ _) rfl (wX9_adr _ _ _ _ _ _) rfl hl.1 rfl (Nat.le_of_ble_eq_true rfl) dX9_bendsAll_28 ⟨Nat.le_refl _, Nat.le_refl _⟩ (fun H locs hP hD hS => ?_)
          refine lv_istore (lv' := [(6, .int z12), (0, .ref (a 0)), (1, .int p1), (2, .int p2), (3, .int x7), (4, .int x2), (5, .int x8)]) hx hb dX9_bendsAll_31 hl (by decide) rfl (fun ls hl => ?_)
          refine lv_iload hx hb dX9_bendsAll_33 (lv_at hl 6 rfl) ?_
          have J1 : ∀ (x13 : Int32), j_X9_bendsAll_1 tr p1 p2 x2 x7 x8 g9 k10 z12 x13 = some out → ∀ (H : Heap) (locs : List Loc) (ls : Array Slot), va_P E.1 vwCl (wX9 E a g9 tr) H → va_D A (wX9 E a g9 tr) → va_S A s.heap H locs → lv_has ls 8 [(0, .ref (a 0)), (1, .int p1), (2, .int p2), (3, .int x7), (4, .int x2), (5, .int x8), (6, .int z12)] → W p l e rm_X9_bendsAll s m ([.ref (a 0), .int p1, .int p2] : List Value).toArray below meth c H locs 0 0 (MQ below (va_Qi (fun x (_ : Unit) => x = out.1) (fun _ t => QW E (wX9 E a out.2 tr) t) A) ([.ref (a 0), .int p1, .int p2] : List Value).toArray s 0 0 A) (F0 m 45 ls [.int x13]) := by
            intro x13 hf H locs ls hP hD hS hl
            refine lv_iload hx hb dX9_bendsAll_45 (lv_at hl 4 rfl) ?_
            refine lv_iadd hx hb dX9_bendsAll_47 ?_
            refine lv_istore (lv' := [(7, .int (x13 + x2)), (0, .ref (a 0)), (1, .int p1), (2, .int p2), (3, .int x7), (4, .int x2), (5, .int x8), (6, .int z12)]) hx hb dX9_bendsAll_48 hl (by decide) rfl (fun ls hl => ?_)
            refine lv_iload hx hb dX9_bendsAll_50 (lv_at hl 7 rfl) ?_
            refine lv_bipush (v := (-9)) hx hb dX9_bendsAll_52 (by decide) ?_
            refine lv_icmp_eq (tgt := 111) hx hb dX9_bendsAll_54 (by decide) (fun c14 => ?_) (fun c14 => ?_)
            · have hf := (if_pos c14).symm.trans hf
              refine lv_iinc (v := (x8 + 1)) (lv' := [(5, .int (x8 + 1)), (7, .int (x13 + x2)), (0, .ref (a 0)), (1, .int p1), (2, .int p2), (3, .int x7), (4, .int x2), (6, .int z12)]) hx hb dX9_bendsAll_111 hl (k := 6) rfl rfl (by decide) rfl (fun ls hl => ?_)
              refine lv_goto (tgt := 17) hx hb dX9_bendsAll_114 (by decide) ?_
              exact ih10 x7 (x8 + 1) g9 hf H locs ls hP hD hS (lv_sub hl [2, 3, 4, 5, 6, 0] rfl)
            · have hf := (if_neg c14).symm.trans hf
              refine lv_aload_n hx hb dX9_bendsAll_57 rfl (lv_at hl 1 rfl) ?_
              refine lv_iload_n hx hb dX9_bendsAll_58 rfl (lv_at hl 2 rfl) ?_
              refine lv_iconst (v := 1) hx hb dX9_bendsAll_59 (by decide) ?_
              refine lv_iand hx hb dX9_bendsAll_60 ?_
              refine lv_iload_n hx hb dX9_bendsAll_61 rfl (lv_at hl 2 rfl) ?_
              refine lv_bipush (v := 8) hx hb dX9_bendsAll_62 (by decide) ?_
              refine lv_idiv hx hb dX9_bendsAll_64 (by decide) ?_
              refine lv_iconst (v := 1) hx hb dX9_bendsAll_65 (by decide) ?_
              refine lv_iadd hx hb dX9_bendsAll_66 ?_
              refine lv_iload hx hb dX9_bendsAll_67 (lv_at hl 5 rfl) ?_
              refine lv_iload hx hb dX9_bendsAll_69 (lv_at hl 7 rfl) ?_
              obtain ⟨z15, hz15, hf⟩ := obd hf
              refine cV_allI X (As := [.int (p1 &&& 1), .int ((p1 / 8) + 1), .int x2, .int z12]) (rest := []) (c_X9_bends l E a g9 tr (p1 &&& 1) ((p1 / 8) + 1) x2 z12 hz15) pv_X9_bends ml_X9_157 ⟨rfl, rfl⟩ ⟨(Nat.le_of_ble_eq_true rfl), (Nat.le_of_ble_eq_true rfl)⟩ hP hD hS (wX9_g0_0 _ _ _ _) rfl (wX9_adr _ _ _ _ _ _) rfl hl.1 rfl (Nat.le_of_ble_eq_true rfl) dX9_bendsAll_71 ⟨Nat.le_refl _, Nat.le_refl _⟩ (fun H locs hP hD hS => ?_)
              refine lv_if_eq (tgt := 111) hx hb dX9_bendsAll_74 (by decide) (fun c16 => ?_) (fun c16 => ?_)
              · have hf := (if_pos c16).symm.trans hf
                refine lv_iinc (v := (x8 + 1)) (lv' := [(5, .int (x8 + 1)), (7, .int (x13 + x2)), (0, .ref (a 0)), (1, .int p1), (2, .int p2), (3, .int x7), (4, .int x2), (6, .int z12)]) hx hb dX9_bendsAll_111 hl (k := 6) rfl rfl (by decide) rfl (fun ls hl => ?_)
                refine lv_goto (tgt := 17) hx hb dX9_bendsAll_114 (by decide) ?_
                exact ih10 x7 (x8 + 1) g9 hf H locs ls hP hD hS (lv_sub hl [2, 3, 4, 5, 6, 0] rfl)
              · have hf := (if_neg c16).symm.trans hf
                refine lv_aload_n hx hb dX9_bendsAll_77 rfl (lv_at hl 1 rfl) ?_
                refine r_get X hP 0 (wX9_g0_0 _ _ _ _) rfl inc_X9 5 (by decide) fl_X9_19 rfl dX9_bendsAll_78 ?_
                refine lv_iload hx hb dX9_bendsAll_81 (lv_at hl 0 rfl) ?_
                refine lv_dup2_11 hx hb dX9_bendsAll_83 rfl rfl ?_
                obtain ⟨h17, hf⟩ := chk_in hf
                refine r_iald X hP 4 (wX9_g0_4 _ _ _ _) h17 dX9_bendsAll_84 ?_
                refine lv_iload_n hx hb dX9_bendsAll_85 rfl (lv_at hl 3 rfl) ?_
                refine lv_iadd hx hb dX9_bendsAll_86 ?_
                obtain ⟨h18, hf⟩ := chk_in hf
                refine r_iast X hP hD hS 4 (wX9_g0_4 _ _ _ _) h18 (wX9_t0_4 _ _ _ _ _ _) dX9_bendsAll_87 (fun H locs hP hD hS => ?_)
                refine lv_aload_n hx hb dX9_bendsAll_88 rfl (lv_at hl 1 rfl) ?_
                refine r_get X hP 0 (wX9_g0_0 _ _ _ _) rfl inc_X9 5 (by decide) fl_X9_19 rfl dX9_bendsAll_89 ?_
                refine lv_iload hx hb dX9_bendsAll_92 (lv_at hl 0 rfl) ?_
                obtain ⟨h19, hf⟩ := chk_in hf
                refine r_iald X hP 4 (wX9_g0_4 _ _ _ _) h19 dX9_bendsAll_94 ?_
                refine lv_iload_n hx hb dX9_bendsAll_95 rfl (lv_at hl 4 rfl) ?_
                refine lv_icmp_le (tgt := 109) hx hb dX9_bendsAll_96 (by decide) (fun c20 => ?_) (fun c20 => ?_)
                · have hf := (if_pos c20).symm.trans hf
                  refine lv_iload_n hx hb dX9_bendsAll_109 rfl (lv_at hl 4 rfl) ?_
                  refine lv_istore_n (lv' := [(3, .int x7), (7, .int (x13 + x2)), (0, .ref (a 0)), (1, .int p1), (2, .int p2), (4, .int x2), (5, .int x8), (6, .int z12)]) hx hb dX9_bendsAll_110 rfl hl (by decide) rfl (fun ls hl => ?_)
                  refine lv_iinc (v := (x8 + 1)) (lv' := [(5, .int (x8 + 1)), (3, .int x7), (7, .int (x13 + x2)), (0, .ref (a 0)), (1, .int p1), (2, .int p2), (4, .int x2), (6, .int z12)]) hx hb dX9_bendsAll_111 hl (k := 6) rfl rfl (by decide) rfl (fun ls hl => ?_)
                  refine lv_goto (tgt := 17) hx hb dX9_bendsAll_114 (by decide) ?_
                  exact ih10 x7 (x8 + 1) (sg_st g9 4 ((x13 + x2) : Int32).toNatClampNeg ((g9 4 ((x13 + x2) : Int32).toNatClampNeg) + p2)) hf H locs ls hP hD hS (lv_sub hl [3, 4, 5, 1, 6, 0] rfl)
                · have hf := (if_neg c20).symm.trans hf
                  refine lv_aload_n hx hb dX9_bendsAll_99 rfl (lv_at hl 1 rfl) ?_
                  refine r_get X hP 0 (wX9_g0_0 _ _ _ _) rfl inc_X9 5 (by decide) fl_X9_19 rfl dX9_bendsAll_100 ?_
                  refine lv_iload hx hb dX9_bendsAll_103 (lv_at hl 0 rfl) ?_
                  obtain ⟨h21, hf⟩ := chk_in hf
                  refine r_iald X hP 4 (wX9_g0_4 _ _ _ _) h21 dX9_bendsAll_105 ?_
                  refine lv_goto (tgt := 110) hx hb dX9_bendsAll_106 (by decide) ?_
                  refine lv_istore_n (lv' := [(3, .int ((sg_st g9 4 ((x13 + x2) : Int32).toNatClampNeg ((g9 4 ((x13 + x2) : Int32).toNatClampNeg) + p2)) 4 ((x13 + x2) : Int32).toNatClampNeg)), (7, .int (x13 + x2)), (0, .ref (a 0)), (1, .int p1), (2, .int p2), (4, .int x2), (5, .int x8), (6, .int z12)]) hx hb dX9_bendsAll_110 rfl hl (by decide) rfl (fun ls hl => ?_)
                  refine lv_iinc (v := (x8 + 1)) (lv' := [(5, .int (x8 + 1)), (3, .int ((sg_st g9 4 ((x13 + x2) : Int32).toNatClampNeg ((g9 4 ((x13 + x2) : Int32).toNatClampNeg) + p2)) 4 ((x13 + x2) : Int32).toNatClampNeg)), (7, .int (x13 + x2)), (0, .ref (a 0)), (1, .int p1), (2, .int p2), (4, .int x2), (6, .int z12)]) hx hb dX9_bendsAll_111 hl (k := 6) rfl rfl (by decide) rfl (fun ls hl => ?_)
                  refine lv_goto (tgt := 17) hx hb dX9_bendsAll_114 (by decide) ?_
                  exact ih10 ((sg_st g9 4 ((x13 + x2) : Int32).toNatClampNeg ((g9 4 ((x13 + x2) : Int32).toNatClampNeg) + p2)) 4 ((x13 + x2) : Int32).toNatClampNeg) (x8 + 1) (sg_st g9 4 ((x13 + x2) : Int32).toNatClampNeg ((g9 4 ((x13 + x2) : Int32).toNatClampNeg) + p2)) hf H locs ls hP hD hS (lv_sub hl [3, 4, 5, 1, 6, 0] rfl)
          refine lv_if_ne (tgt := 43) hx hb dX9_bendsAll_35 (by decide) (fun c22 => ?_) (fun c22 => ?_)
          · have hf := (if_neg c22).symm.trans hf
            refine lv_bipush (v := 24) hx hb dX9_bendsAll_43 (by decide) ?_
            exact J1 24 hf H locs ls hP hD hS (lv_sub hl [1, 2, 3, 4, 5, 6, 0] rfl)
          · have hf := (if_pos c22).symm.trans hf
            refine lv_bipush (v := 8) hx hb dX9_bendsAll_38 (by decide) ?_
            refine lv_goto (tgt := 45) hx hb dX9_bendsAll_40 (by decide) ?_
            exact J1 8 hf H locs ls hP hD hS (lv_sub hl [1, 2, 3, 4, 5, 6, 0] rfl))
      exact L10 1000 x1 0 g3 hf H locs ls hP hD hS (lv_sub hl [1, 2, 3, 4, 5, 0] rfl))
  exact L4 1000 0 0 σ hf H locs ls hP hD hS (lv_sub hl [2, 3, 4, 1, 0] rfl)
def rm_X9_bent : Room := { frames := 3, cells := 0, slots := 0, locals := 65 }
theorem pv_X9_bent : PkV RX9 yX9_bent cX9_bent 5 (some .int) 2 := ⟨im_X9_bent, se_X9_bent, ini_X9, cd_X9_bent, by decide +kernel⟩
set_option maxHeartbeats 4000000 in
set_option maxRecDepth 100000 in
theorem c_X9_bent (l : Launch) (E : Ev) (a : Nat → Nat) (σ : Sg) (tr : Int64) (p1 : Int32) (p2 : Int32) {out : Int32} (hf : f_X9_bent σ tr p1 p2 = some out) : MtI l yX9_bent (wl yX9_bent cX9_bent 5 (some .int)) rm_X9_bent E [.ref (a 0), .int p1, .int p2] (wX9 E a σ tr) out (wX9 E a σ tr) := by
  refine mt_of (QQ := (fun A => va_Qi (fun x (_ : Unit) => x = out) (fun _ t => QW E (wX9 E a σ tr) t) A)) (by decide) (Nat.le_of_ble_eq_true rfl) (fun p e s m below meth c A ls X hr hP hD hS hl => ?_)
  have hx := X.1.1
  have hb := X.1.2.1
  have hl : lv_has ls 5 [(0, .ref (a 0)), (1, .int p1), (2, .int p2)] := hl
  obtain ⟨H, hHe⟩ : ∃ H : Heap, H = s.heap := ⟨_, rfl⟩
  obtain ⟨locs, hLe⟩ : ∃ locs : List Loc, locs = [] := ⟨_, rfl⟩
  have hP : va_P E.1 vwCl (wX9 E a σ tr) H := by rw [hHe]; exact hP
  have hS : va_S A s.heap H locs := by rw [hHe, hLe]; exact hS
  rw [← hLe, show W p l e rm_X9_bent s m ([.ref (a 0), .int p1, .int p2] : List Value).toArray below meth c s.heap locs 0 0 = W p l e rm_X9_bent s m ([.ref (a 0), .int p1, .int p2] : List Value).toArray below meth c H locs 0 0 from by rw [hHe]]
  refine lv_aload_n hx hb dX9_bent_0 rfl (lv_at hl 0 rfl) ?_
  refine lv_iload_n hx hb dX9_bent_1 rfl (lv_at hl 1 rfl) ?_
  refine lv_iload_n hx hb dX9_bent_2 rfl (lv_at hl 2 rfl) ?_
  obtain ⟨z1, hz1, hf⟩ := obd hf
  refine cV_allI X (As := [.int p1, .int p2]) (rest := []) (c_X9_areTwo l E a σ tr p1 p2 hz1) pv_X9_areTwo ml_X9_167 ⟨rfl, rfl⟩ ⟨(Nat.le_of_ble_eq_true rfl), (Nat.le_of_ble_eq_true rfl)⟩ hP hD hS (wX9_g0_0 _ _ _ _) rfl (wX9_adr _ _ _ _ _ _) rfl hl.1 rfl (Nat.le_of_ble_eq_true rfl) dX9_bent_3 ⟨Nat.le_refl _, Nat.le_refl _⟩ (fun H locs hP hD hS => ?_)
  refine lv_if_ne (tgt := 11) hx hb dX9_bent_6 (by decide) (fun c2 => ?_) (fun c2 => ?_)
  · have hf := (if_neg c2).symm.trans hf
    refine lv_iload_n hx hb dX9_bent_11 rfl (lv_at hl 1 rfl) ?_
    refine lv_iload_n hx hb dX9_bent_12 rfl (lv_at hl 2 rfl) ?_
    have J1 : ∀ (x3 : Int32), j_X9_bent_1 σ tr p1 p2 x3 = some out → ∀ (H : Heap) (locs : List Loc) (ls : Array Slot), va_P E.1 vwCl (wX9 E a σ tr) H → va_D A (wX9 E a σ tr) → va_S A s.heap H locs → lv_has ls 5 [(0, .ref (a 0)), (1, .int p1), (2, .int p2)] → W p l e rm_X9_bent s m ([.ref (a 0), .int p1, .int p2] : List Value).toArray below meth c H locs 0 0 (MQ below (va_Qi (fun x (_ : Unit) => x = out) (fun _ t => QW E (wX9 E a σ tr) t) A) ([.ref (a 0), .int p1, .int p2] : List Value).toArray s 0 0 A) (F0 m 21 ls [.int x3]) := by
      intro x3 hf H locs ls hP hD hS hl
      refine lv_istore_n (lv' := [(3, .int x3), (0, .ref (a 0)), (1, .int p1), (2, .int p2)]) hx hb dX9_bent_21 rfl hl (by decide) rfl (fun ls hl => ?_)
      refine lv_iload_n hx hb dX9_bent_22 rfl (lv_at hl 2 rfl) ?_
      refine lv_iload_n hx hb dX9_bent_23 rfl (lv_at hl 3 rfl) ?_
      have J2 : ∀ (x4 : Int32), j_X9_bent_2 σ tr x3 x4 = some out → ∀ (H : Heap) (locs : List Loc) (ls : Array Slot), va_P E.1 vwCl (wX9 E a σ tr) H → va_D A (wX9 E a σ tr) → va_S A s.heap H locs → lv_has ls 5 [(0, .ref (a 0)), (3, .int x3)] → W p l e rm_X9_bent s m ([.ref (a 0), .int p1, .int p2] : List Value).toArray below meth c H locs 0 0 (MQ below (va_Qi (fun x (_ : Unit) => x = out) (fun _ t => QW E (wX9 E a σ tr) t) A) ([.ref (a 0), .int p1, .int p2] : List Value).toArray s 0 0 A) (F0 m 32 ls [.int x4]) := by
        intro x4 hf H locs ls hP hD hS hl
        refine lv_istore (lv' := [(4, .int x4), (0, .ref (a 0)), (3, .int x3)]) hx hb dX9_bent_32 hl (by decide) rfl (fun ls hl => ?_)
        refine lv_aload_n hx hb dX9_bent_34 rfl (lv_at hl 1 rfl) ?_
        refine lv_iload_n hx hb dX9_bent_35 rfl (lv_at hl 2 rfl) ?_
        refine lv_iconst (v := 0) hx hb dX9_bent_36 (by decide) ?_
        obtain ⟨z5, hz5, hf⟩ := obd hf
        refine cV_allI X (As := [.int x3, .int 0]) (rest := []) (c_X9_neighbour l E a σ tr x3 0 hz5) pv_X9_neighbour ml_X9_154 ⟨rfl, rfl⟩ ⟨(Nat.le_of_ble_eq_true rfl), (Nat.le_of_ble_eq_true rfl)⟩ hP hD hS (wX9_g0_0 _ _ _ _) rfl (wX9_adr _ _ _ _ _ _) rfl hl.1 rfl (Nat.le_of_ble_eq_true rfl) dX9_bent_37 ⟨Nat.le_refl _, Nat.le_refl _⟩ (fun H locs hP hD hS => ?_)
        refine lv_iload hx hb dX9_bent_40 (lv_at hl 0 rfl) ?_
        refine lv_icmp_ne (tgt := 57) hx hb dX9_bent_42 (by decide) (fun c6 => ?_) (fun c6 => ?_)
        · have hf := (if_neg c6).symm.trans hf
          refine lv_aload_n hx hb dX9_bent_57 rfl (lv_at hl 1 rfl) ?_
          refine lv_iload_n hx hb dX9_bent_58 rfl (lv_at hl 2 rfl) ?_
          refine lv_iconst (v := 1) hx hb dX9_bent_59 (by decide) ?_
          obtain ⟨z7, hz7, hf⟩ := obd hf
          refine cV_allI X (As := [.int x3, .int 1]) (rest := []) (c_X9_neighbour l E a σ tr x3 1 hz7) pv_X9_neighbour ml_X9_154 ⟨rfl, rfl⟩ ⟨(Nat.le_of_ble_eq_true rfl), (Nat.le_of_ble_eq_true rfl)⟩ hP hD hS (wX9_g0_0 _ _ _ _) rfl (wX9_adr _ _ _ _ _ _) rfl hl.1 rfl (Nat.le_of_ble_eq_true rfl) dX9_bent_60 ⟨Nat.le_refl _, Nat.le_refl _⟩ (fun H locs hP hD hS => ?_)
          refine lv_iload hx hb dX9_bent_63 (lv_at hl 0 rfl) ?_
          refine lv_icmp_ne (tgt := 80) hx hb dX9_bent_65 (by decide) (fun c8 => ?_) (fun c8 => ?_)
          · have hf := (if_neg c8).symm.trans hf
            refine lv_iconst (v := (-1)) hx hb dX9_bent_80 (by decide) ?_
            have ho := Option.some.inj hf
            exact r_iret X hr hP hS ho rfl dX9_bent_81
          · have hf := (if_pos c8).symm.trans hf
            refine lv_aload_n hx hb dX9_bent_68 rfl (lv_at hl 1 rfl) ?_
            refine r_get X hP 0 (wX9_g0_0 _ _ _ _) rfl inc_X9 5 (by decide) fl_X9_19 rfl dX9_bent_69 ?_
            refine lv_bipush (v := 24) hx hb dX9_bent_72 (by decide) ?_
            refine lv_iload_n hx hb dX9_bent_74 rfl (lv_at hl 2 rfl) ?_
            refine lv_iadd hx hb dX9_bent_75 ?_
            obtain ⟨h9, hf⟩ := chk_in hf
            refine r_iald X hP 4 (wX9_g0_4 _ _ _ _) h9 dX9_bent_76 ?_
            refine lv_goto (tgt := 81) hx hb dX9_bent_77 (by decide) ?_
            have ho := Option.some.inj hf
            exact r_iret X hr hP hS ho rfl dX9_bent_81
        · have hf := (if_pos c6).symm.trans hf
          refine lv_aload_n hx hb dX9_bent_45 rfl (lv_at hl 1 rfl) ?_
          refine r_get X hP 0 (wX9_g0_0 _ _ _ _) rfl inc_X9 5 (by decide) fl_X9_19 rfl dX9_bent_46 ?_
          refine lv_bipush (v := 8) hx hb dX9_bent_49 (by decide) ?_
          refine lv_iload_n hx hb dX9_bent_51 rfl (lv_at hl 2 rfl) ?_
          refine lv_iadd hx hb dX9_bent_52 ?_
          obtain ⟨h10, hf⟩ := chk_in hf
          refine r_iald X hP 4 (wX9_g0_4 _ _ _ _) h10 dX9_bent_53 ?_
          refine lv_goto (tgt := 81) hx hb dX9_bent_54 (by decide) ?_
          have ho := Option.some.inj hf
          exact r_iret X hr hP hS ho rfl dX9_bent_81
      refine lv_icmp_ge (tgt := 31) hx hb dX9_bent_24 (by decide) (fun c11 => ?_) (fun c11 => ?_)
      · have hf := (if_pos c11).symm.trans hf
        refine lv_iload_n hx hb dX9_bent_31 rfl (lv_at hl 2 rfl) ?_
        exact J2 p1 hf H locs ls hP hD hS (lv_sub hl [1, 0] rfl)
      · have hf := (if_neg c11).symm.trans hf
        refine lv_iload_n hx hb dX9_bent_27 rfl (lv_at hl 3 rfl) ?_
        refine lv_goto (tgt := 32) hx hb dX9_bent_28 (by decide) ?_
        exact J2 p2 hf H locs ls hP hD hS (lv_sub hl [1, 0] rfl)
    refine lv_icmp_ge (tgt := 20) hx hb dX9_bent_13 (by decide) (fun c12 => ?_) (fun c12 => ?_)
    · have hf := (if_pos c12).symm.trans hf
      refine lv_iload_n hx hb dX9_bent_20 rfl (lv_at hl 2 rfl) ?_
      exact J1 p2 hf H locs ls hP hD hS (lv_sub hl [0, 1, 2] rfl)
    · have hf := (if_neg c12).symm.trans hf
      refine lv_iload_n hx hb dX9_bent_16 rfl (lv_at hl 1 rfl) ?_
      refine lv_goto (tgt := 21) hx hb dX9_bent_17 (by decide) ?_
      exact J1 p1 hf H locs ls hP hD hS (lv_sub hl [0, 1, 2] rfl)
  · have hf := (if_pos c2).symm.trans hf
    refine lv_iconst (v := (-1)) hx hb dX9_bent_9 (by decide) ?_
    have ho := Option.some.inj hf
    exact r_iret X hr hP hS ho rfl dX9_bent_10
def rm_X9_byteAt : Room := { frames := 0, cells := 0, slots := 0, locals := 0 }
theorem pv_X9_byteAt : PkV RX9 yX9_byteAt cX9_byteAt 2 (some .int) 1 := ⟨im_X9_byteAt, se_X9_byteAt, ini_X9, cd_X9_byteAt, by decide +kernel⟩
set_option maxHeartbeats 4000000 in
set_option maxRecDepth 100000 in
theorem c_X9_byteAt (l : Launch) (E : Ev) (a : Nat → Nat) (σ : Sg) (tr : Int64) (p1 : Int32) {out : Int32} (hf : f_X9_byteAt σ tr p1 = some out) : MtI l yX9_byteAt (wl yX9_byteAt cX9_byteAt 2 (some .int)) rm_X9_byteAt E [.ref (a 0), .int p1] (wX9 E a σ tr) out (wX9 E a σ tr) := by
  refine mt_of (QQ := (fun A => va_Qi (fun x (_ : Unit) => x = out) (fun _ t => QW E (wX9 E a σ tr) t) A)) (by decide) (Nat.le_of_ble_eq_true rfl) (fun p e s m below meth c A ls X hr hP hD hS hl => ?_)
  have hx := X.1.1
  have hb := X.1.2.1
  have hl : lv_has ls 2 [(0, .ref (a 0)), (1, .int p1)] := hl
  obtain ⟨H, hHe⟩ : ∃ H : Heap, H = s.heap := ⟨_, rfl⟩
  obtain ⟨locs, hLe⟩ : ∃ locs : List Loc, locs = [] := ⟨_, rfl⟩
  have hP : va_P E.1 vwCl (wX9 E a σ tr) H := by rw [hHe]; exact hP
  have hS : va_S A s.heap H locs := by rw [hHe, hLe]; exact hS
  rw [← hLe, show W p l e rm_X9_byteAt s m ([.ref (a 0), .int p1] : List Value).toArray below meth c s.heap locs 0 0 = W p l e rm_X9_byteAt s m ([.ref (a 0), .int p1] : List Value).toArray below meth c H locs 0 0 from by rw [hHe]]
  refine lv_iload_n hx hb dX9_byteAt_0 rfl (lv_at hl 1 rfl) ?_
  refine lv_aload_n hx hb dX9_byteAt_1 rfl (lv_at hl 0 rfl) ?_
  refine r_get X hP 0 (wX9_g0_0 _ _ _ _) rfl inc_X9 2 (by decide) fl_X9_63 rfl dX9_byteAt_2 ?_
  refine lv_icmp_ge (tgt := 17) hx hb dX9_byteAt_5 (by decide) (fun c1 => ?_) (fun c1 => ?_)
  · have hf := (if_pos c1).symm.trans hf
    refine lv_iconst (v := (-1)) hx hb dX9_byteAt_17 (by decide) ?_
    have ho := Option.some.inj hf
    exact r_iret X hr hP hS ho rfl dX9_byteAt_18
  · have hf := (if_neg c1).symm.trans hf
    refine lv_aload_n hx hb dX9_byteAt_8 rfl (lv_at hl 0 rfl) ?_
    refine r_get X hP 0 (wX9_g0_0 _ _ _ _) rfl inc_X9 1 (by decide) fl_X9_7 rfl dX9_byteAt_9 ?_
    refine lv_iload_n hx hb dX9_byteAt_12 rfl (lv_at hl 1 rfl) ?_
    obtain ⟨h2, hf⟩ := chk_in hf
    refine r_iald X hP 1 (wX9_g0_1 _ _ _ _) h2 dX9_byteAt_13 ?_
    refine lv_goto (tgt := 18) hx hb dX9_byteAt_14 (by decide) ?_
    have ho := Option.some.inj hf
    exact r_iret X hr hP hS ho rfl dX9_byteAt_18
def rm_X9_touches : Room := { frames := 0, cells := 0, slots := 0, locals := 0 }
theorem pv_X9_touches : PkV RX9 yX9_touches cX9_touches 10 (some .int) 3 := ⟨im_X9_touches, se_X9_touches, ini_X9, cd_X9_touches, by decide +kernel⟩
set_option maxHeartbeats 4000000 in
set_option maxRecDepth 100000 in
theorem c_X9_touches (l : Launch) (E : Ev) (a : Nat → Nat) (σ : Sg) (tr : Int64) (p1 : Int32) (p2 : Int32) (p3 : Int32) {out : Int32} (hf : f_X9_touches σ tr p1 p2 p3 = some out) : MtI l yX9_touches (wl yX9_touches cX9_touches 10 (some .int)) rm_X9_touches E [.ref (a 0), .int p1, .int p2, .int p3] (wX9 E a σ tr) out (wX9 E a σ tr) := by
  refine mt_of (QQ := (fun A => va_Qi (fun x (_ : Unit) => x = out) (fun _ t => QW E (wX9 E a σ tr) t) A)) (by decide) (Nat.le_of_ble_eq_true rfl) (fun p e s m below meth c A ls X hr hP hD hS hl => ?_)
  have hx := X.1.1
  have hb := X.1.2.1
  have hl : lv_has ls 10 [(0, .ref (a 0)), (1, .int p1), (2, .int p2), (3, .int p3)] := hl
  obtain ⟨H, hHe⟩ : ∃ H : Heap, H = s.heap := ⟨_, rfl⟩
  obtain ⟨locs, hLe⟩ : ∃ locs : List Loc, locs = [] := ⟨_, rfl⟩
  have hP : va_P E.1 vwCl (wX9 E a σ tr) H := by rw [hHe]; exact hP
  have hS : va_S A s.heap H locs := by rw [hHe, hLe]; exact hS
  rw [← hLe, show W p l e rm_X9_touches s m ([.ref (a 0), .int p1, .int p2, .int p3] : List Value).toArray below meth c s.heap locs 0 0 = W p l e rm_X9_touches s m ([.ref (a 0), .int p1, .int p2, .int p3] : List Value).toArray below meth c H locs 0 0 from by rw [hHe]]
  refine lv_bipush (v := 64) hx hb dX9_touches_0 (by decide) ?_
  refine lv_iload_n hx hb dX9_touches_2 rfl (lv_at hl 1 rfl) ?_
  refine lv_imul hx hb dX9_touches_3 ?_
  refine lv_istore (lv' := [(4, .int (64 * p1)), (0, .ref (a 0)), (1, .int p1), (2, .int p2), (3, .int p3)]) hx hb dX9_touches_4 hl (by decide) rfl (fun ls hl => ?_)
  refine lv_aload_n hx hb dX9_touches_6 rfl (lv_at hl 1 rfl) ?_
  refine r_get X hP 0 (wX9_g0_0 _ _ _ _) rfl inc_X9 15 (by decide) fl_X9_35 rfl dX9_touches_7 ?_
  refine lv_iload hx hb dX9_touches_10 (lv_at hl 0 rfl) ?_
  refine lv_bipush (v := 32) hx hb dX9_touches_12 (by decide) ?_
  refine lv_iadd hx hb dX9_touches_14 ?_
  refine lv_iload_n hx hb dX9_touches_15 rfl (lv_at hl 4 rfl) ?_
  refine lv_iadd hx hb dX9_touches_16 ?_
  obtain ⟨h1, hf⟩ := chk_in hf
  refine r_iald X hP 9 (wX9_g0_9 _ _ _ _) h1 dX9_touches_17 ?_
  refine lv_aload_n hx hb dX9_touches_18 rfl (lv_at hl 1 rfl) ?_
  refine r_get X hP 0 (wX9_g0_0 _ _ _ _) rfl inc_X9 15 (by decide) fl_X9_35 rfl dX9_touches_19 ?_
  refine lv_iload hx hb dX9_touches_22 (lv_at hl 0 rfl) ?_
  refine lv_bipush (v := 32) hx hb dX9_touches_24 (by decide) ?_
  refine lv_iadd hx hb dX9_touches_26 ?_
  refine lv_iload_n hx hb dX9_touches_27 rfl (lv_at hl 3 rfl) ?_
  refine lv_iadd hx hb dX9_touches_28 ?_
  obtain ⟨h2, hf⟩ := chk_in hf
  refine r_iald X hP 9 (wX9_g0_9 _ _ _ _) h2 dX9_touches_29 ?_
  refine lv_isub hx hb dX9_touches_30 ?_
  refine lv_istore (lv' := [(5, .int ((σ 9 ((((64 * p1) + 32) + p3) : Int32).toNatClampNeg) - (σ 9 ((((64 * p1) + 32) + p2) : Int32).toNatClampNeg))), (4, .int (64 * p1)), (0, .ref (a 0)), (1, .int p1), (2, .int p2), (3, .int p3)]) hx hb dX9_touches_31 hl (by decide) rfl (fun ls hl => ?_)
  refine lv_aload_n hx hb dX9_touches_33 rfl (lv_at hl 2 rfl) ?_
  refine r_get X hP 0 (wX9_g0_0 _ _ _ _) rfl inc_X9 15 (by decide) fl_X9_35 rfl dX9_touches_34 ?_
  refine lv_iload hx hb dX9_touches_37 (lv_at hl 1 rfl) ?_
  refine lv_iload_n hx hb dX9_touches_39 rfl (lv_at hl 4 rfl) ?_
  refine lv_iadd hx hb dX9_touches_40 ?_
  obtain ⟨h3, hf⟩ := chk_in hf
  refine r_iald X hP 9 (wX9_g0_9 _ _ _ _) h3 dX9_touches_41 ?_
  refine lv_aload_n hx hb dX9_touches_42 rfl (lv_at hl 2 rfl) ?_
  refine r_get X hP 0 (wX9_g0_0 _ _ _ _) rfl inc_X9 15 (by decide) fl_X9_35 rfl dX9_touches_43 ?_
  refine lv_iload hx hb dX9_touches_46 (lv_at hl 1 rfl) ?_
  refine lv_iload_n hx hb dX9_touches_48 rfl (lv_at hl 5 rfl) ?_
  refine lv_iadd hx hb dX9_touches_49 ?_
  obtain ⟨h4, hf⟩ := chk_in hf
  refine r_iald X hP 9 (wX9_g0_9 _ _ _ _) h4 dX9_touches_50 ?_
  refine lv_icmp_ne (tgt := 93) hx hb dX9_touches_51 (by decide) (fun c5 => ?_) (fun c5 => ?_)
  · have hf := (if_neg c5).symm.trans hf
    refine lv_iconst (v := 0) hx hb dX9_touches_93 (by decide) ?_
    have ho := Option.some.inj hf
    exact r_iret X hr hP hS ho rfl dX9_touches_94
  · have hf := (if_pos c5).symm.trans hf
    refine lv_aload_n hx hb dX9_touches_54 rfl (lv_at hl 2 rfl) ?_
    refine r_get X hP 0 (wX9_g0_0 _ _ _ _) rfl inc_X9 15 (by decide) fl_X9_35 rfl dX9_touches_55 ?_
    refine lv_iload hx hb dX9_touches_58 (lv_at hl 1 rfl) ?_
    refine lv_bipush (v := 16) hx hb dX9_touches_60 (by decide) ?_
    refine lv_iadd hx hb dX9_touches_62 ?_
    refine lv_iload_n hx hb dX9_touches_63 rfl (lv_at hl 4 rfl) ?_
    refine lv_iadd hx hb dX9_touches_64 ?_
    obtain ⟨h6, hf⟩ := chk_in hf
    refine r_iald X hP 9 (wX9_g0_9 _ _ _ _) h6 dX9_touches_65 ?_
    refine lv_aload_n hx hb dX9_touches_66 rfl (lv_at hl 2 rfl) ?_
    refine r_get X hP 0 (wX9_g0_0 _ _ _ _) rfl inc_X9 15 (by decide) fl_X9_35 rfl dX9_touches_67 ?_
    refine lv_iload hx hb dX9_touches_70 (lv_at hl 1 rfl) ?_
    refine lv_bipush (v := 16) hx hb dX9_touches_72 (by decide) ?_
    refine lv_iadd hx hb dX9_touches_74 ?_
    refine lv_iload_n hx hb dX9_touches_75 rfl (lv_at hl 5 rfl) ?_
    refine lv_iadd hx hb dX9_touches_76 ?_
    obtain ⟨h7, hf⟩ := chk_in hf
    refine r_iald X hP 9 (wX9_g0_9 _ _ _ _) h7 dX9_touches_77 ?_
    refine lv_icmp_ne (tgt := 93) hx hb dX9_touches_78 (by decide) (fun c8 => ?_) (fun c8 => ?_)
    · have hf := (if_neg c8).symm.trans hf
      refine lv_iconst (v := 0) hx hb dX9_touches_93 (by decide) ?_
      have ho := Option.some.inj hf
      exact r_iret X hr hP hS ho rfl dX9_touches_94
    · have hf := (if_pos c8).symm.trans hf
      refine lv_iload hx hb dX9_touches_81 (lv_at hl 0 rfl) ?_
      refine lv_iconst (v := 1) hx hb dX9_touches_83 (by decide) ?_
      have J1 : j_X9_touches_1 σ p1 p2 p3 = some out → ∀ (H : Heap) (locs : List Loc) (ls : Array Slot), va_P E.1 vwCl (wX9 E a σ tr) H → va_D A (wX9 E a σ tr) → va_S A s.heap H locs → lv_has ls 10 [(0, .ref (a 0)), (2, .int p2), (3, .int p3), (4, .int (64 * p1)), (5, .int ((σ 9 ((((64 * p1) + 32) + p3) : Int32).toNatClampNeg) - (σ 9 ((((64 * p1) + 32) + p2) : Int32).toNatClampNeg)))] → W p l e rm_X9_touches s m ([.ref (a 0), .int p1, .int p2, .int p3] : List Value).toArray below meth c H locs 0 0 (MQ below (va_Qi (fun x (_ : Unit) => x = out) (fun _ t => QW E (wX9 E a σ tr) t) A) ([.ref (a 0), .int p1, .int p2, .int p3] : List Value).toArray s 0 0 A) (F0 m 95 ls []) := by
        intro hf H locs ls hP hD hS hl
        refine lv_iload hx hb dX9_touches_95 (lv_at hl 4 rfl) ?_
        refine lv_iconst (v := 1) hx hb dX9_touches_97 (by decide) ?_
        have J2 : ∀ (x9 : Int32), j_X9_touches_2 σ p1 p2 p3 x9 = some out → ∀ (H : Heap) (locs : List Loc) (ls : Array Slot), va_P E.1 vwCl (wX9 E a σ tr) H → va_D A (wX9 E a σ tr) → va_S A s.heap H locs → lv_has ls 10 [(0, .ref (a 0)), (2, .int p2), (3, .int p3), (4, .int (64 * p1)), (5, .int ((σ 9 ((((64 * p1) + 32) + p3) : Int32).toNatClampNeg) - (σ 9 ((((64 * p1) + 32) + p2) : Int32).toNatClampNeg)))] → W p l e rm_X9_touches s m ([.ref (a 0), .int p1, .int p2, .int p3] : List Value).toArray below meth c H locs 0 0 (MQ below (va_Qi (fun x (_ : Unit) => x = out) (fun _ t => QW E (wX9 E a σ tr) t) A) ([.ref (a 0), .int p1, .int p2, .int p3] : List Value).toArray s 0 0 A) (F0 m 106 ls [.int x9]) := by
          intro x9 hf H locs ls hP hD hS hl
          refine lv_istore (lv' := [(6, .int x9), (0, .ref (a 0)), (2, .int p2), (3, .int p3), (4, .int (64 * p1)), (5, .int ((σ 9 ((((64 * p1) + 32) + p3) : Int32).toNatClampNeg) - (σ 9 ((((64 * p1) + 32) + p2) : Int32).toNatClampNeg)))]) hx hb dX9_touches_106 hl (by decide) rfl (fun ls hl => ?_)
          refine lv_iload hx hb dX9_touches_108 (lv_at hl 5 rfl) ?_
          refine lv_iconst (v := 1) hx hb dX9_touches_110 (by decide) ?_
          have J3 : ∀ (x10 : Int32), j_X9_touches_3 σ p1 x9 x10 = some out → ∀ (H : Heap) (locs : List Loc) (ls : Array Slot), va_P E.1 vwCl (wX9 E a σ tr) H → va_D A (wX9 E a σ tr) → va_S A s.heap H locs → lv_has ls 10 [(0, .ref (a 0)), (4, .int (64 * p1)), (6, .int x9)] → W p l e rm_X9_touches s m ([.ref (a 0), .int p1, .int p2, .int p3] : List Value).toArray below meth c H locs 0 0 (MQ below (va_Qi (fun x (_ : Unit) => x = out) (fun _ t => QW E (wX9 E a σ tr) t) A) ([.ref (a 0), .int p1, .int p2, .int p3] : List Value).toArray s 0 0 A) (F0 m 119 ls [.int x10]) := by
            intro x10 hf H locs ls hP hD hS hl
            refine lv_istore (lv' := [(7, .int x10), (0, .ref (a 0)), (4, .int (64 * p1)), (6, .int x9)]) hx hb dX9_touches_119 hl (by decide) rfl (fun ls hl => ?_)
            refine lv_aload_n hx hb dX9_touches_121 rfl (lv_at hl 1 rfl) ?_
            refine r_get X hP 0 (wX9_g0_0 _ _ _ _) rfl inc_X9 15 (by decide) fl_X9_35 rfl dX9_touches_122 ?_
            refine lv_iload hx hb dX9_touches_125 (lv_at hl 2 rfl) ?_
            refine lv_bipush (v := 48) hx hb dX9_touches_127 (by decide) ?_
            refine lv_iadd hx hb dX9_touches_129 ?_
            refine lv_iload hx hb dX9_touches_130 (lv_at hl 3 rfl) ?_
            refine lv_iadd hx hb dX9_touches_132 ?_
            obtain ⟨h11, hf⟩ := chk_in hf
            refine r_iald X hP 9 (wX9_g0_9 _ _ _ _) h11 dX9_touches_133 ?_
            refine lv_iconst (v := 1) hx hb dX9_touches_134 (by decide) ?_
            have J4 : ∀ (x12 : Int32), j_X9_touches_4 σ p1 x10 x12 = some out → ∀ (H : Heap) (locs : List Loc) (ls : Array Slot), va_P E.1 vwCl (wX9 E a σ tr) H → va_D A (wX9 E a σ tr) → va_S A s.heap H locs → lv_has ls 10 [(0, .ref (a 0)), (4, .int (64 * p1)), (7, .int x10)] → W p l e rm_X9_touches s m ([.ref (a 0), .int p1, .int p2, .int p3] : List Value).toArray below meth c H locs 0 0 (MQ below (va_Qi (fun x (_ : Unit) => x = out) (fun _ t => QW E (wX9 E a σ tr) t) A) ([.ref (a 0), .int p1, .int p2, .int p3] : List Value).toArray s 0 0 A) (F0 m 143 ls [.int x12]) := by
              intro x12 hf H locs ls hP hD hS hl
              refine lv_istore (lv' := [(8, .int x12), (0, .ref (a 0)), (4, .int (64 * p1)), (7, .int x10)]) hx hb dX9_touches_143 hl (by decide) rfl (fun ls hl => ?_)
              refine lv_aload_n hx hb dX9_touches_145 rfl (lv_at hl 1 rfl) ?_
              refine r_get X hP 0 (wX9_g0_0 _ _ _ _) rfl inc_X9 15 (by decide) fl_X9_35 rfl dX9_touches_146 ?_
              refine lv_iload hx hb dX9_touches_149 (lv_at hl 2 rfl) ?_
              refine lv_bipush (v := 48) hx hb dX9_touches_151 (by decide) ?_
              refine lv_iadd hx hb dX9_touches_153 ?_
              refine lv_iload hx hb dX9_touches_154 (lv_at hl 3 rfl) ?_
              refine lv_iadd hx hb dX9_touches_156 ?_
              obtain ⟨h13, hf⟩ := chk_in hf
              refine r_iald X hP 9 (wX9_g0_9 _ _ _ _) h13 dX9_touches_157 ?_
              have J5 : ∀ (x14 : Int32), j_X9_touches_5 x12 x14 = some out → ∀ (H : Heap) (locs : List Loc) (ls : Array Slot), va_P E.1 vwCl (wX9 E a σ tr) H → va_D A (wX9 E a σ tr) → va_S A s.heap H locs → lv_has ls 10 [(8, .int x12)] → W p l e rm_X9_touches s m ([.ref (a 0), .int p1, .int p2, .int p3] : List Value).toArray below meth c H locs 0 0 (MQ below (va_Qi (fun x (_ : Unit) => x = out) (fun _ t => QW E (wX9 E a σ tr) t) A) ([.ref (a 0), .int p1, .int p2, .int p3] : List Value).toArray s 0 0 A) (F0 m 166 ls [.int x14]) := by
                intro x14 hf H locs ls hP hD hS hl
                refine lv_istore (lv' := [(9, .int x14), (8, .int x12)]) hx hb dX9_touches_166 hl (by decide) rfl (fun ls hl => ?_)
                refine lv_iload hx hb dX9_touches_168 (lv_at hl 1 rfl) ?_
                have J6 : j_X9_touches_6 x12 x14 = some out → ∀ (H : Heap) (locs : List Loc) (ls : Array Slot), va_P E.1 vwCl (wX9 E a σ tr) H → va_D A (wX9 E a σ tr) → va_S A s.heap H locs → lv_has ls 10 [(8, .int x12), (9, .int x14)] → W p l e rm_X9_touches s m ([.ref (a 0), .int p1, .int p2, .int p3] : List Value).toArray below meth c H locs 0 0 (MQ below (va_Qi (fun x (_ : Unit) => x = out) (fun _ t => QW E (wX9 E a σ tr) t) A) ([.ref (a 0), .int p1, .int p2, .int p3] : List Value).toArray s 0 0 A) (F0 m 182 ls []) := by
                  intro hf H locs ls hP hD hS hl
                  refine lv_iload hx hb dX9_touches_182 (lv_at hl 0 rfl) ?_
                  refine lv_if_ne (tgt := 196) hx hb dX9_touches_184 (by decide) (fun c15 => ?_) (fun c15 => ?_)
                  · have hf := (if_neg c15).symm.trans hf
                    refine lv_iconst (v := 3) hx hb dX9_touches_196 (by decide) ?_
                    have ho := Option.some.inj hf
                    exact r_iret X hr hP hS ho rfl dX9_touches_197
                  · have hf := (if_pos c15).symm.trans hf
                    refine lv_iload hx hb dX9_touches_187 (lv_at hl 1 rfl) ?_
                    refine lv_if_ne (tgt := 196) hx hb dX9_touches_189 (by decide) (fun c16 => ?_) (fun c16 => ?_)
                    · have hf := (if_neg c16).symm.trans hf
                      refine lv_iconst (v := 3) hx hb dX9_touches_196 (by decide) ?_
                      have ho := Option.some.inj hf
                      exact r_iret X hr hP hS ho rfl dX9_touches_197
                    · have hf := (if_pos c16).symm.trans hf
                      refine lv_iconst (v := 2) hx hb dX9_touches_192 (by decide) ?_
                      refine lv_goto (tgt := 197) hx hb dX9_touches_193 (by decide) ?_
                      have ho := Option.some.inj hf
                      exact r_iret X hr hP hS ho rfl dX9_touches_197
                refine lv_if_eq (tgt := 182) hx hb dX9_touches_170 (by decide) (fun c17 => ?_) (fun c17 => ?_)
                · have hf := (if_pos c17).symm.trans hf
                  exact J6 hf H locs ls hP hD hS (lv_sub hl [1, 0] rfl)
                · have hf := (if_neg c17).symm.trans hf
                  refine lv_iload hx hb dX9_touches_173 (lv_at hl 0 rfl) ?_
                  refine lv_if_eq (tgt := 182) hx hb dX9_touches_175 (by decide) (fun c18 => ?_) (fun c18 => ?_)
                  · have hf := (if_pos c18).symm.trans hf
                    exact J6 hf H locs ls hP hD hS (lv_sub hl [1, 0] rfl)
                  · have hf := (if_neg c18).symm.trans hf
                    refine lv_iconst (v := 1) hx hb dX9_touches_178 (by decide) ?_
                    refine lv_goto (tgt := 197) hx hb dX9_touches_179 (by decide) ?_
                    have ho := Option.some.inj hf
                    exact r_iret X hr hP hS ho rfl dX9_touches_197
              refine lv_if_ne (tgt := 165) hx hb dX9_touches_158 (by decide) (fun c19 => ?_) (fun c19 => ?_)
              · have hf := (if_neg c19).symm.trans hf
                refine lv_iconst (v := 0) hx hb dX9_touches_165 (by decide) ?_
                exact J5 0 hf H locs ls hP hD hS (lv_sub hl [0] rfl)
              · have hf := (if_pos c19).symm.trans hf
                refine lv_iconst (v := 1) hx hb dX9_touches_161 (by decide) ?_
                refine lv_goto (tgt := 166) hx hb dX9_touches_162 (by decide) ?_
                exact J5 1 hf H locs ls hP hD hS (lv_sub hl [0] rfl)
            refine lv_icmp_ne (tgt := 142) hx hb dX9_touches_135 (by decide) (fun c20 => ?_) (fun c20 => ?_)
            · have hf := (if_neg c20).symm.trans hf
              refine lv_iconst (v := 0) hx hb dX9_touches_142 (by decide) ?_
              exact J4 0 hf H locs ls hP hD hS (lv_sub hl [1, 2, 0] rfl)
            · have hf := (if_pos c20).symm.trans hf
              refine lv_iconst (v := 1) hx hb dX9_touches_138 (by decide) ?_
              refine lv_goto (tgt := 143) hx hb dX9_touches_139 (by decide) ?_
              exact J4 1 hf H locs ls hP hD hS (lv_sub hl [1, 2, 0] rfl)
          refine lv_icmp_ne (tgt := 118) hx hb dX9_touches_111 (by decide) (fun c21 => ?_) (fun c21 => ?_)
          · have hf := (if_neg c21).symm.trans hf
            refine lv_iload_n hx hb dX9_touches_118 rfl (lv_at hl 2 rfl) ?_
            exact J3 p2 hf H locs ls hP hD hS (lv_sub hl [1, 4, 0] rfl)
          · have hf := (if_pos c21).symm.trans hf
            refine lv_iload_n hx hb dX9_touches_114 rfl (lv_at hl 3 rfl) ?_
            refine lv_goto (tgt := 119) hx hb dX9_touches_115 (by decide) ?_
            exact J3 p3 hf H locs ls hP hD hS (lv_sub hl [1, 4, 0] rfl)
        refine lv_icmp_ne (tgt := 105) hx hb dX9_touches_98 (by decide) (fun c22 => ?_) (fun c22 => ?_)
        · have hf := (if_neg c22).symm.trans hf
          refine lv_iload_n hx hb dX9_touches_105 rfl (lv_at hl 2 rfl) ?_
          exact J2 p3 hf H locs ls hP hD hS (lv_sub hl [0, 1, 2, 3, 4] rfl)
        · have hf := (if_pos c22).symm.trans hf
          refine lv_iload_n hx hb dX9_touches_101 rfl (lv_at hl 1 rfl) ?_
          refine lv_goto (tgt := 106) hx hb dX9_touches_102 (by decide) ?_
          exact J2 p2 hf H locs ls hP hD hS (lv_sub hl [0, 1, 2, 3, 4] rfl)
      refine lv_icmp_eq (tgt := 95) hx hb dX9_touches_84 (by decide) (fun c23 => ?_) (fun c23 => ?_)
      · have hf := (if_pos c23).symm.trans hf
        exact J1 hf H locs ls hP hD hS (lv_sub hl [2, 4, 5, 1, 0] rfl)
      · have hf := (if_neg c23).symm.trans hf
        refine lv_iload hx hb dX9_touches_87 (lv_at hl 0 rfl) ?_
        refine lv_iconst (v := (-1)) hx hb dX9_touches_89 (by decide) ?_
        refine lv_icmp_eq (tgt := 95) hx hb dX9_touches_90 (by decide) (fun c24 => ?_) (fun c24 => ?_)
        · have hf := (if_pos c24).symm.trans hf
          exact J1 hf H locs ls hP hD hS (lv_sub hl [2, 4, 5, 1, 0] rfl)
        · have hf := (if_neg c24).symm.trans hf
          refine lv_iconst (v := 0) hx hb dX9_touches_93 (by decide) ?_
          have ho := Option.some.inj hf
          exact r_iret X hr hP hS ho rfl dX9_touches_94
def rm_X9_gain : Room := { frames := 1, cells := 0, slots := 0, locals := 29 }
theorem pv_X9_gain : PkV RX9 yX9_gain cX9_gain 5 (some .int) 2 := ⟨im_X9_gain, se_X9_gain, ini_X9, cd_X9_gain, by decide +kernel⟩
set_option maxHeartbeats 4000000 in
set_option maxRecDepth 100000 in
theorem c_X9_gain (l : Launch) (E : Ev) (a : Nat → Nat) (σ : Sg) (tr : Int64) (p1 : Int32) (p2 : Int32) {out : Int32} (hf : f_X9_gain σ tr p1 p2 = some out) : MtI l yX9_gain (wl yX9_gain cX9_gain 5 (some .int)) rm_X9_gain E [.ref (a 0), .int p1, .int p2] (wX9 E a σ tr) out (wX9 E a σ tr) := by
  refine mt_of (QQ := (fun A => va_Qi (fun x (_ : Unit) => x = out) (fun _ t => QW E (wX9 E a σ tr) t) A)) (by decide) (Nat.le_of_ble_eq_true rfl) (fun p e s m below meth c A ls X hr hP hD hS hl => ?_)
  have hx := X.1.1
  have hb := X.1.2.1
  have hl : lv_has ls 5 [(0, .ref (a 0)), (1, .int p1), (2, .int p2)] := hl
  obtain ⟨H, hHe⟩ : ∃ H : Heap, H = s.heap := ⟨_, rfl⟩
  obtain ⟨locs, hLe⟩ : ∃ locs : List Loc, locs = [] := ⟨_, rfl⟩
  have hP : va_P E.1 vwCl (wX9 E a σ tr) H := by rw [hHe]; exact hP
  have hS : va_S A s.heap H locs := by rw [hHe, hLe]; exact hS
  rw [← hLe, show W p l e rm_X9_gain s m ([.ref (a 0), .int p1, .int p2] : List Value).toArray below meth c s.heap locs 0 0 = W p l e rm_X9_gain s m ([.ref (a 0), .int p1, .int p2] : List Value).toArray below meth c H locs 0 0 from by rw [hHe]]
  refine lv_iconst (v := 0) hx hb dX9_gain_0 (by decide) ?_
  refine lv_istore_n (lv' := [(3, .int 0), (0, .ref (a 0)), (1, .int p1), (2, .int p2)]) hx hb dX9_gain_1 rfl hl (by decide) rfl (fun ls hl => ?_)
  refine lv_iconst (v := 0) hx hb dX9_gain_2 (by decide) ?_
  refine lv_istore (lv' := [(4, .int 0), (3, .int 0), (0, .ref (a 0)), (1, .int p1), (2, .int p2)]) hx hb dX9_gain_3 hl (by decide) rfl (fun ls hl => ?_)
  have L3 := lc2_ind (o := out) (step := (s_X9_gain_5 σ tr p1 p2)) (fun x1 x2 => ∀ (H : Heap) (locs : List Loc) (ls : Array Slot), va_P E.1 vwCl (wX9 E a σ tr) H → va_D A (wX9 E a σ tr) → va_S A s.heap H locs → lv_has ls 5 [(0, .ref (a 0)), (1, .int p1), (2, .int p2), (3, .int x1), (4, .int x2)] → W p l e rm_X9_gain s m ([.ref (a 0), .int p1, .int p2] : List Value).toArray below meth c H locs 0 0 (MQ below (va_Qi (fun x (_ : Unit) => x = out) (fun _ t => QW E (wX9 E a σ tr) t) A) ([.ref (a 0), .int p1, .int p2] : List Value).toArray s 0 0 A) (F0 m 5 ls [])) (fun x1 x2 k3 ih3 hf H locs ls hP hD hS hl => by
    refine lv_iload hx hb dX9_gain_5 (lv_at hl 4 rfl) ?_
    refine lv_aload_n hx hb dX9_gain_7 rfl (lv_at hl 0 rfl) ?_
    obtain ⟨z4, hz4, hf⟩ := obd hf
    refine cV_allI X (As := []) (rest := [.int x2]) (c_X9_cells l E a σ tr hz4) pv_X9_cells ml_X9_51 ⟨rfl, rfl⟩ ⟨(Nat.le_of_ble_eq_true rfl), (Nat.le_of_ble_eq_true rfl)⟩ hP hD hS (wX9_g0_0 _ _ _ _) rfl (wX9_adr _ _ _ _ _ _) rfl hl.1 rfl (Nat.le_of_ble_eq_true rfl) dX9_gain_8 ⟨Nat.le_refl _, Nat.le_refl _⟩ (fun H locs hP hD hS => ?_)
    refine lv_icmp_ge (tgt := 55) hx hb dX9_gain_11 (by decide) (fun c5 => ?_) (fun c5 => ?_)
    · have hf := (if_pos c5).symm.trans hf
      refine lv_iload_n hx hb dX9_gain_55 rfl (lv_at hl 3 rfl) ?_
      have ho := Option.some.inj hf
      exact r_iret X hr hP hS ho rfl dX9_gain_56
    · have hf := (if_neg c5).symm.trans hf
      refine lv_iload_n hx hb dX9_gain_14 rfl (lv_at hl 3 rfl) ?_
      refine lv_iload hx hb dX9_gain_15 (lv_at hl 4 rfl) ?_
      refine lv_iload_n hx hb dX9_gain_17 rfl (lv_at hl 2 rfl) ?_
      have J1 : ∀ (x6 : Int32), j_X9_gain_1 x1 x2 k3 x6 = some out → ∀ (H : Heap) (locs : List Loc) (ls : Array Slot), va_P E.1 vwCl (wX9 E a σ tr) H → va_D A (wX9 E a σ tr) → va_S A s.heap H locs → lv_has ls 5 [(0, .ref (a 0)), (1, .int p1), (2, .int p2), (4, .int x2)] → W p l e rm_X9_gain s m ([.ref (a 0), .int p1, .int p2] : List Value).toArray below meth c H locs 0 0 (MQ below (va_Qi (fun x (_ : Unit) => x = out) (fun _ t => QW E (wX9 E a σ tr) t) A) ([.ref (a 0), .int p1, .int p2] : List Value).toArray s 0 0 A) (F0 m 47 ls [.int x6, .int x1]) := by
        intro x6 hf H locs ls hP hD hS hl
        refine lv_iadd hx hb dX9_gain_47 ?_
        refine lv_istore_n (lv' := [(3, .int (x1 + x6)), (0, .ref (a 0)), (1, .int p1), (2, .int p2), (4, .int x2)]) hx hb dX9_gain_48 rfl hl (by decide) rfl (fun ls hl => ?_)
        refine lv_iinc (v := (x2 + 1)) (lv' := [(4, .int (x2 + 1)), (3, .int (x1 + x6)), (0, .ref (a 0)), (1, .int p1), (2, .int p2)]) hx hb dX9_gain_49 hl (k := 4) rfl rfl (by decide) rfl (fun ls hl => ?_)
        refine lv_goto (tgt := 5) hx hb dX9_gain_52 (by decide) ?_
        exact ih3 (x1 + x6) (x2 + 1) hf H locs ls hP hD hS (lv_sub hl [2, 3, 4, 1, 0] rfl)
      refine lv_icmp_eq (tgt := 46) hx hb dX9_gain_18 (by decide) (fun c7 => ?_) (fun c7 => ?_)
      · have hf := (if_pos c7).symm.trans hf
        refine lv_iconst (v := 0) hx hb dX9_gain_46 (by decide) ?_
        exact J1 0 hf H locs ls hP hD hS (lv_sub hl [0, 1, 2, 4] rfl)
      · have hf := (if_neg c7).symm.trans hf
        refine lv_aload_n hx hb dX9_gain_21 rfl (lv_at hl 0 rfl) ?_
        refine lv_iload_n hx hb dX9_gain_22 rfl (lv_at hl 1 rfl) ?_
        refine lv_iload_n hx hb dX9_gain_23 rfl (lv_at hl 2 rfl) ?_
        refine lv_iload hx hb dX9_gain_24 (lv_at hl 4 rfl) ?_
        obtain ⟨z8, hz8, hf⟩ := obd hf
        refine cV_allI X (As := [.int p1, .int p2, .int x2]) (rest := [.int x1]) (c_X9_touches l E a σ tr p1 p2 x2 hz8) pv_X9_touches ml_X9_144 ⟨rfl, rfl⟩ ⟨(Nat.le_of_ble_eq_true rfl), (Nat.le_of_ble_eq_true rfl)⟩ hP hD hS (wX9_g0_0 _ _ _ _) rfl (wX9_adr _ _ _ _ _ _) rfl hl.1 rfl (Nat.le_of_ble_eq_true rfl) dX9_gain_26 ⟨Nat.le_refl _, Nat.le_refl _⟩ (fun H locs hP hD hS => ?_)
        refine lv_iconst (v := 1) hx hb dX9_gain_29 (by decide) ?_
        refine lv_icmp_ne (tgt := 46) hx hb dX9_gain_30 (by decide) (fun c9 => ?_) (fun c9 => ?_)
        · have hf := (if_neg c9).symm.trans hf
          refine lv_iconst (v := 0) hx hb dX9_gain_46 (by decide) ?_
          exact J1 0 hf H locs ls hP hD hS (lv_sub hl [0, 1, 2, 4] rfl)
        · have hf := (if_pos c9).symm.trans hf
          refine lv_aload_n hx hb dX9_gain_33 rfl (lv_at hl 0 rfl) ?_
          refine r_get X hP 0 (wX9_g0_0 _ _ _ _) rfl inc_X9 3 (by decide) fl_X9_13 rfl dX9_gain_34 ?_
          refine lv_bipush (v := 6) hx hb dX9_gain_37 (by decide) ?_
          refine lv_iload hx hb dX9_gain_39 (lv_at hl 4 rfl) ?_
          refine lv_iadd hx hb dX9_gain_41 ?_
          obtain ⟨h10, hf⟩ := chk_in hf
          refine r_iald X hP 2 (wX9_g0_2 _ _ _ _) h10 dX9_gain_42 ?_
          refine lv_goto (tgt := 47) hx hb dX9_gain_43 (by decide) ?_
          exact J1 (σ 2 ((6 + x2) : Int32).toNatClampNeg) hf H locs ls hP hD hS (lv_sub hl [0, 1, 2, 4] rfl))
  exact L3 1000 0 0 hf H locs ls hP hD hS (lv_sub hl [2, 3, 4, 1, 0] rfl)
def rm_X9_cell : Room := { frames := 4, cells := 0, slots := 0, locals := 103 }
theorem pv_X9_cell : PkV RX9 yX9_cell cX9_cell 3 (some .int) 2 := ⟨im_X9_cell, se_X9_cell, ini_X9, cd_X9_cell, by decide +kernel⟩
set_option maxHeartbeats 4000000 in
set_option maxRecDepth 100000 in
theorem c_X9_cell (l : Launch) (E : Ev) (a : Nat → Nat) (σ : Sg) (tr : Int64) (p1 : Int32) (p2 : Int32) {out : Int32 × Sg} (hf : f_X9_cell σ tr p1 p2 = some out) : MtI l yX9_cell (wl yX9_cell cX9_cell 3 (some .int)) rm_X9_cell E [.ref (a 0), .int p1, .int p2] (wX9 E a σ tr) out.1 (wX9 E a out.2 tr) := by
  refine mt_of (QQ := (fun A => va_Qi (fun x (_ : Unit) => x = out.1) (fun _ t => QW E (wX9 E a out.2 tr) t) A)) (by decide) (Nat.le_of_ble_eq_true rfl) (fun p e s m below meth c A ls X hr hP hD hS hl => ?_)
  have hx := X.1.1
  have hb := X.1.2.1
  have hl : lv_has ls 3 [(0, .ref (a 0)), (1, .int p1), (2, .int p2)] := hl
  obtain ⟨H, hHe⟩ : ∃ H : Heap, H = s.heap := ⟨_, rfl⟩
  obtain ⟨locs, hLe⟩ : ∃ locs : List Loc, locs = [] := ⟨_, rfl⟩
  have hP : va_P E.1 vwCl (wX9 E a σ tr) H := by rw [hHe]; exact hP
  have hS : va_S A s.heap H locs := by rw [hHe, hLe]; exact hS
  rw [← hLe, show W p l e rm_X9_cell s m ([.ref (a 0), .int p1, .int p2] : List Value).toArray below meth c s.heap locs 0 0 = W p l e rm_X9_cell s m ([.ref (a 0), .int p1, .int p2] : List Value).toArray below meth c H locs 0 0 from by rw [hHe]]
  refine lv_aload_n hx hb dX9_cell_0 rfl (lv_at hl 0 rfl) ?_
  refine lv_iload_n hx hb dX9_cell_1 rfl (lv_at hl 1 rfl) ?_
  obtain ⟨z1, hz1, hf⟩ := obd hf
  refine cV_allI X (As := [.int p1]) (rest := []) (c_X9_isCell l E a σ tr p1 hz1) pv_X9_isCell ml_X9_59 ⟨rfl, rfl⟩ ⟨(Nat.le_of_ble_eq_true rfl), (Nat.le_of_ble_eq_true rfl)⟩ hP hD hS (wX9_g0_0 _ _ _ _) rfl (wX9_adr _ _ _ _ _ _) rfl hl.1 rfl (Nat.le_of_ble_eq_true rfl) dX9_cell_2 ⟨Nat.le_refl _, Nat.le_refl _⟩ (fun H locs hP hD hS => ?_)
  refine lv_if_eq (tgt := 17) hx hb dX9_cell_5 (by decide) (fun c2 => ?_) (fun c2 => ?_)
  · have hf := (if_pos c2).symm.trans hf
    refine lv_iconst (v := (-1)) hx hb dX9_cell_17 (by decide) ?_
    have ho := Option.some.inj hf
    have hv : (-1) = out.1 := by rw [← ho]
    have hw := congrArg (fun o : Int32 × Sg => (wX9 E a o.2 tr)) ho
    exact r_iret X hr hP hS hv hw dX9_cell_18
  · have hf := (if_neg c2).symm.trans hf
    refine lv_iload_n hx hb dX9_cell_8 rfl (lv_at hl 2 rfl) ?_
    refine lv_iconst (v := 0) hx hb dX9_cell_9 (by decide) ?_
    refine lv_iconst (v := 5) hx hb dX9_cell_10 (by decide) ?_
    obtain ⟨z3, hz3, hf⟩ := obd hf
    refine cS_roI X (As := [.int p2, .int 0, .int 5]) (rest := []) (c_X9_in l E p2 0 5 hz3) ps_X9_in ml_X9_55 ⟨rfl, rfl⟩ ⟨(Nat.le_of_ble_eq_true rfl), (Nat.le_of_ble_eq_true rfl)⟩ hP hD hS (is := []) (wc := []) rfl rfl rfl hl.1 rfl (Nat.le_of_ble_eq_true rfl) dX9_cell_11 ⟨Nat.le_refl _, Nat.le_refl _⟩ (fun H locs hP hS => ?_)
    refine lv_if_ne (tgt := 19) hx hb dX9_cell_14 (by decide) (fun c4 => ?_) (fun c4 => ?_)
    · have hf := (if_neg c4).symm.trans hf
      refine lv_aload_n hx hb dX9_cell_19 rfl (lv_at hl 0 rfl) ?_
      refine lv_aload_n hx hb dX9_cell_20 rfl (lv_at hl 0 rfl) ?_
      refine r_get X hP 0 (wX9_g0_0 _ _ _ _) rfl inc_X9 5 (by decide) fl_X9_19 rfl dX9_cell_21 ?_
      refine lv_iconst (v := 1) hx hb dX9_cell_24 (by decide) ?_
      obtain ⟨h5, hf⟩ := chk_in hf
      refine r_iald X hP 4 (wX9_g0_4 _ _ _ _) h5 dX9_cell_25 ?_
      obtain ⟨z6, hz6, hf⟩ := obd hf
      refine cV_allV X (As := [.int (σ 4 (1 : Int32).toNatClampNeg)]) (rest := []) (c_X9_now l E a σ tr (σ 4 (1 : Int32).toNatClampNeg) hz6) pv_X9_now ml_X9_148 ⟨rfl, rfl⟩ ⟨(Nat.le_of_ble_eq_true rfl), (Nat.le_of_ble_eq_true rfl)⟩ hP hD hS (wX9_g0_0 _ _ _ _) rfl (wX9_adr _ _ _ _ _ _) rfl hl.1 rfl (Nat.le_of_ble_eq_true rfl) dX9_cell_26 ⟨Nat.le_refl _, Nat.le_refl _⟩ (fun H locs hP hD hS => ?_)
      refine lv_iload_n hx hb dX9_cell_29 rfl (lv_at hl 2 rfl) ?_
      refine lv_iconst (v := 4) hx hb dX9_cell_30 (by decide) ?_
      refine lv_icmp_ge (tgt := 48) hx hb dX9_cell_31 (by decide) (fun c7 => ?_) (fun c7 => ?_)
      · have hf := (if_pos c7).symm.trans hf
        refine lv_iload_n hx hb dX9_cell_48 rfl (lv_at hl 2 rfl) ?_
        refine lv_iconst (v := 4) hx hb dX9_cell_49 (by decide) ?_
        refine lv_icmp_ne (tgt := 65) hx hb dX9_cell_50 (by decide) (fun c8 => ?_) (fun c8 => ?_)
        · have hf := (if_neg c8).symm.trans hf
          refine lv_aload_n hx hb dX9_cell_65 rfl (lv_at hl 0 rfl) ?_
          refine lv_iconst (v := 0) hx hb dX9_cell_66 (by decide) ?_
          refine lv_iload_n hx hb dX9_cell_67 rfl (lv_at hl 1 rfl) ?_
          obtain ⟨z9, hz9, hf⟩ := obd hf
          refine cV_allI X (As := [.int 0, .int p1]) (rest := []) (c_X9_gain l E a z6 tr 0 p1 hz9) pv_X9_gain ml_X9_151 ⟨rfl, rfl⟩ ⟨(Nat.le_of_ble_eq_true rfl), (Nat.le_of_ble_eq_true rfl)⟩ hP hD hS (wX9_g0_0 _ _ _ _) rfl (wX9_adr _ _ _ _ _ _) rfl hl.1 rfl (Nat.le_of_ble_eq_true rfl) dX9_cell_68 ⟨Nat.le_refl _, Nat.le_refl _⟩ (fun H locs hP hD hS => ?_)
          have ho := Option.some.inj hf
          have hv : z9 = out.1 := by rw [← ho]
          have hw := congrArg (fun o : Int32 × Sg => (wX9 E a o.2 tr)) ho
          exact r_iret X hr hP hS hv hw dX9_cell_71
        · have hf := (if_pos c8).symm.trans hf
          refine lv_aload_n hx hb dX9_cell_53 rfl (lv_at hl 0 rfl) ?_
          refine r_get X hP 0 (wX9_g0_0 _ _ _ _) rfl inc_X9 3 (by decide) fl_X9_13 rfl dX9_cell_54 ?_
          refine lv_bipush (v := 6) hx hb dX9_cell_57 (by decide) ?_
          refine lv_iload_n hx hb dX9_cell_59 rfl (lv_at hl 1 rfl) ?_
          refine lv_iadd hx hb dX9_cell_60 ?_
          obtain ⟨h10, hf⟩ := chk_in hf
          refine r_iald X hP 2 (wX9_g0_2 _ _ _ _) h10 dX9_cell_61 ?_
          refine lv_goto (tgt := 71) hx hb dX9_cell_62 (by decide) ?_
          have ho := Option.some.inj hf
          have hv : (z6 2 ((6 + p1) : Int32).toNatClampNeg) = out.1 := by rw [← ho]
          have hw := congrArg (fun o : Int32 × Sg => (wX9 E a o.2 tr)) ho
          exact r_iret X hr hP hS hv hw dX9_cell_71
      · have hf := (if_neg c7).symm.trans hf
        refine lv_aload_n hx hb dX9_cell_34 rfl (lv_at hl 0 rfl) ?_
        refine r_get X hP 0 (wX9_g0_0 _ _ _ _) rfl inc_X9 15 (by decide) fl_X9_35 rfl dX9_cell_35 ?_
        refine lv_bipush (v := 16) hx hb dX9_cell_38 (by decide) ?_
        refine lv_iload_n hx hb dX9_cell_40 rfl (lv_at hl 2 rfl) ?_
        refine lv_imul hx hb dX9_cell_41 ?_
        refine lv_iload_n hx hb dX9_cell_42 rfl (lv_at hl 1 rfl) ?_
        refine lv_iadd hx hb dX9_cell_43 ?_
        obtain ⟨h11, hf⟩ := chk_in hf
        refine r_iald X hP 9 (wX9_g0_9 _ _ _ _) h11 dX9_cell_44 ?_
        refine lv_goto (tgt := 71) hx hb dX9_cell_45 (by decide) ?_
        have ho := Option.some.inj hf
        have hv : (z6 9 (((16 * p2) + p1) : Int32).toNatClampNeg) = out.1 := by rw [← ho]
        have hw := congrArg (fun o : Int32 × Sg => (wX9 E a o.2 tr)) ho
        exact r_iret X hr hP hS hv hw dX9_cell_71
    · have hf := (if_pos c4).symm.trans hf
      refine lv_iconst (v := (-1)) hx hb dX9_cell_17 (by decide) ?_
      have ho := Option.some.inj hf
      have hv : (-1) = out.1 := by rw [← ho]
      have hw := congrArg (fun o : Int32 × Sg => (wX9 E a o.2 tr)) ho
      exact r_iret X hr hP hS hv hw dX9_cell_18
def rm_X9_clear : Room := { frames := 0, cells := 0, slots := 0, locals := 0 }
theorem pv_X9_clear : PkV RX9 yX9_clear cX9_clear 2 (some .int) 0 := ⟨im_X9_clear, se_X9_clear, ini_X9, cd_X9_clear, by decide +kernel⟩
set_option maxHeartbeats 4000000 in
set_option maxRecDepth 100000 in
theorem c_X9_clear (l : Launch) (E : Ev) (a : Nat → Nat) (σ : Sg) (tr : Int64) {out : Int32 × Sg} (hf : f_X9_clear σ tr = some out) : MtI l yX9_clear (wl yX9_clear cX9_clear 2 (some .int)) rm_X9_clear E [.ref (a 0)] (wX9 E a σ tr) out.1 (wX9 E a out.2 tr) := by
  refine mt_of (QQ := (fun A => va_Qi (fun x (_ : Unit) => x = out.1) (fun _ t => QW E (wX9 E a out.2 tr) t) A)) (by decide) (Nat.le_of_ble_eq_true rfl) (fun p e s m below meth c A ls X hr hP hD hS hl => ?_)
  have hx := X.1.1
  have hb := X.1.2.1
  have hl : lv_has ls 2 [(0, .ref (a 0))] := hl
  obtain ⟨H, hHe⟩ : ∃ H : Heap, H = s.heap := ⟨_, rfl⟩
  obtain ⟨locs, hLe⟩ : ∃ locs : List Loc, locs = [] := ⟨_, rfl⟩
  have hP : va_P E.1 vwCl (wX9 E a σ tr) H := by rw [hHe]; exact hP
  have hS : va_S A s.heap H locs := by rw [hHe, hLe]; exact hS
  rw [← hLe, show W p l e rm_X9_clear s m ([.ref (a 0)] : List Value).toArray below meth c s.heap locs 0 0 = W p l e rm_X9_clear s m ([.ref (a 0)] : List Value).toArray below meth c H locs 0 0 from by rw [hHe]]
  refine lv_aload_n hx hb dX9_clear_0 rfl (lv_at hl 0 rfl) ?_
  refine r_get X hP 0 (wX9_g0_0 _ _ _ _) rfl inc_X9 2 (by decide) fl_X9_63 rfl dX9_clear_1 ?_
  refine lv_istore_n (lv' := [(1, .int (σ 0 2)), (0, .ref (a 0))]) hx hb dX9_clear_4 rfl hl (by decide) rfl (fun ls hl => ?_)
  refine lv_aload_n hx hb dX9_clear_5 rfl (lv_at hl 1 rfl) ?_
  refine lv_iconst (v := 0) hx hb dX9_clear_6 (by decide) ?_
  refine r_put X hP hD hS 0 (wX9_g0_0 _ _ _ _) rfl inc_X9 tyX9 tyX9_ok nmX9 2 (by decide) fl_X9_63 rfl (ty := .int) rfl rfl rfl (Nat.le_of_ble_eq_true rfl) (wX9_s0_0_2 _ _ _ _ _) dX9_clear_7 (fun H locs hP hD hS => ?_)
  refine lv_iload_n hx hb dX9_clear_10 rfl (lv_at hl 0 rfl) ?_
  have ho := Option.some.inj hf
  have hv : (σ 0 2) = out.1 := by rw [← ho]
  have hw := congrArg (fun o : Int32 × Sg => (wX9 E a o.2 tr)) ho
  exact r_iret X hr hP hS hv hw dX9_clear_11
def rm_X9_count : Room := { frames := 1, cells := 0, slots := 0, locals := 22 }
theorem pv_X9_count : PkV RX9 yX9_count cX9_count 3 (some .int) 1 := ⟨im_X9_count, se_X9_count, ini_X9, cd_X9_count, by decide +kernel⟩
set_option maxHeartbeats 4000000 in
set_option maxRecDepth 100000 in
theorem c_X9_count (l : Launch) (E : Ev) (a : Nat → Nat) (σ : Sg) (tr : Int64) (p1 : Int32) {out : Int32} (hf : f_X9_count σ tr p1 = some out) : MtI l yX9_count (wl yX9_count cX9_count 3 (some .int)) rm_X9_count E [.ref (a 0), .int p1] (wX9 E a σ tr) out (wX9 E a σ tr) := by
  refine mt_of (QQ := (fun A => va_Qi (fun x (_ : Unit) => x = out) (fun _ t => QW E (wX9 E a σ tr) t) A)) (by decide) (Nat.le_of_ble_eq_true rfl) (fun p e s m below meth c A ls X hr hP hD hS hl => ?_)
  have hx := X.1.1
  have hb := X.1.2.1
  have hl : lv_has ls 3 [(0, .ref (a 0)), (1, .int p1)] := hl
  obtain ⟨H, hHe⟩ : ∃ H : Heap, H = s.heap := ⟨_, rfl⟩
  obtain ⟨locs, hLe⟩ : ∃ locs : List Loc, locs = [] := ⟨_, rfl⟩
  have hP : va_P E.1 vwCl (wX9 E a σ tr) H := by rw [hHe]; exact hP
  have hS : va_S A s.heap H locs := by rw [hHe, hLe]; exact hS
  rw [← hLe, show W p l e rm_X9_count s m ([.ref (a 0), .int p1] : List Value).toArray below meth c s.heap locs 0 0 = W p l e rm_X9_count s m ([.ref (a 0), .int p1] : List Value).toArray below meth c H locs 0 0 from by rw [hHe]]
  refine lv_iload_n hx hb dX9_count_0 rfl (lv_at hl 1 rfl) ?_
  refine lv_iconst (v := 0) hx hb dX9_count_1 (by decide) ?_
  refine lv_bipush (v := 7) hx hb dX9_count_2 (by decide) ?_
  obtain ⟨z1, hz1, hf⟩ := obd hf
  refine cS_roI X (As := [.int p1, .int 0, .int 7]) (rest := []) (c_X9_in l E p1 0 7 hz1) ps_X9_in ml_X9_55 ⟨rfl, rfl⟩ ⟨(Nat.le_of_ble_eq_true rfl), (Nat.le_of_ble_eq_true rfl)⟩ hP hD hS (is := []) (wc := []) rfl rfl rfl hl.1 rfl (Nat.le_of_ble_eq_true rfl) dX9_count_4 ⟨Nat.le_refl _, Nat.le_refl _⟩ (fun H locs hP hS => ?_)
  refine lv_if_ne (tgt := 12) hx hb dX9_count_7 (by decide) (fun c2 => ?_) (fun c2 => ?_)
  · have hf := (if_neg c2).symm.trans hf
    refine lv_iload_n hx hb dX9_count_12 rfl (lv_at hl 1 rfl) ?_
    have J1 : ∀ (x3 : Int32), j_X9_count_1 σ p1 x3 = some out → ∀ (H : Heap) (locs : List Loc) (ls : Array Slot), va_P E.1 vwCl (wX9 E a σ tr) H → va_D A (wX9 E a σ tr) → va_S A s.heap H locs → lv_has ls 3 [(0, .ref (a 0)), (1, .int p1)] → W p l e rm_X9_count s m ([.ref (a 0), .int p1] : List Value).toArray below meth c H locs 0 0 (MQ below (va_Qi (fun x (_ : Unit) => x = out) (fun _ t => QW E (wX9 E a σ tr) t) A) ([.ref (a 0), .int p1] : List Value).toArray s 0 0 A) (F0 m 59 ls [.int x3]) := by
      intro x3 hf H locs ls hP hD hS hl
      refine lv_istore_n (lv' := [(2, .int x3), (0, .ref (a 0)), (1, .int p1)]) hx hb dX9_count_59 rfl hl (by decide) rfl (fun ls hl => ?_)
      refine lv_iload_n hx hb dX9_count_60 rfl (lv_at hl 2 rfl) ?_
      refine lv_iconst (v := 4) hx hb dX9_count_61 (by decide) ?_
      refine lv_icmp_ge (tgt := 69) hx hb dX9_count_62 (by decide) (fun c4 => ?_) (fun c4 => ?_)
      · have hf := (if_pos c4).symm.trans hf
        refine lv_iload_n hx hb dX9_count_69 rfl (lv_at hl 2 rfl) ?_
        refine lv_iconst (v := 4) hx hb dX9_count_70 (by decide) ?_
        refine lv_icmp_ne (tgt := 81) hx hb dX9_count_71 (by decide) (fun c5 => ?_) (fun c5 => ?_)
        · have hf := (if_neg c5).symm.trans hf
          refine lv_iload_n hx hb dX9_count_81 rfl (lv_at hl 2 rfl) ?_
          refine lv_iconst (v := 5) hx hb dX9_count_82 (by decide) ?_
          refine lv_icmp_ne (tgt := 95) hx hb dX9_count_83 (by decide) (fun c6 => ?_) (fun c6 => ?_)
          · have hf := (if_neg c6).symm.trans hf
            refine lv_iload_n hx hb dX9_count_95 rfl (lv_at hl 2 rfl) ?_
            refine lv_bipush (v := 6) hx hb dX9_count_96 (by decide) ?_
            refine lv_icmp_ne (tgt := 110) hx hb dX9_count_98 (by decide) (fun c7 => ?_) (fun c7 => ?_)
            · have hf := (if_neg c7).symm.trans hf
              refine lv_aload_n hx hb dX9_count_110 rfl (lv_at hl 1 rfl) ?_
              refine r_get X hP 0 (wX9_g0_0 _ _ _ _) rfl inc_X9 2 (by decide) fl_X9_63 rfl dX9_count_111 ?_
              have ho := Option.some.inj hf
              exact r_iret X hr hP hS ho rfl dX9_count_114
            · have hf := (if_pos c7).symm.trans hf
              refine lv_aload_n hx hb dX9_count_101 rfl (lv_at hl 1 rfl) ?_
              refine r_get X hP 0 (wX9_g0_0 _ _ _ _) rfl inc_X9 5 (by decide) fl_X9_19 rfl dX9_count_102 ?_
              refine lv_iconst (v := 1) hx hb dX9_count_105 (by decide) ?_
              obtain ⟨h8, hf⟩ := chk_in hf
              refine r_iald X hP 4 (wX9_g0_4 _ _ _ _) h8 dX9_count_106 ?_
              refine lv_goto (tgt := 114) hx hb dX9_count_107 (by decide) ?_
              have ho := Option.some.inj hf
              exact r_iret X hr hP hS ho rfl dX9_count_114
          · have hf := (if_pos c6).symm.trans hf
            refine lv_aload_n hx hb dX9_count_86 rfl (lv_at hl 1 rfl) ?_
            refine r_get X hP 0 (wX9_g0_0 _ _ _ _) rfl inc_X9 5 (by decide) fl_X9_19 rfl dX9_count_87 ?_
            refine lv_iconst (v := 0) hx hb dX9_count_90 (by decide) ?_
            obtain ⟨h9, hf⟩ := chk_in hf
            refine r_iald X hP 4 (wX9_g0_4 _ _ _ _) h9 dX9_count_91 ?_
            refine lv_goto (tgt := 114) hx hb dX9_count_92 (by decide) ?_
            have ho := Option.some.inj hf
            exact r_iret X hr hP hS ho rfl dX9_count_114
        · have hf := (if_pos c5).symm.trans hf
          refine lv_aload_n hx hb dX9_count_74 rfl (lv_at hl 1 rfl) ?_
          refine r_get X hP 0 (wX9_g0_0 _ _ _ _) rfl inc_X9 10 (by decide) fl_X9_126 rfl dX9_count_75 ?_
          refine lv_goto (tgt := 114) hx hb dX9_count_78 (by decide) ?_
          have ho := Option.some.inj hf
          exact r_iret X hr hP hS ho rfl dX9_count_114
      · have hf := (if_neg c4).symm.trans hf
        refine lv_iload_n hx hb dX9_count_65 rfl (lv_at hl 0 rfl) ?_
        refine lv_goto (tgt := 114) hx hb dX9_count_66 (by decide) ?_
        have ho := Option.some.inj hf
        exact r_iret X hr hP hS ho rfl dX9_count_114
    refine lv_if_ne (tgt := 25) hx hb dX9_count_13 (by decide) (fun c10 => ?_) (fun c10 => ?_)
    · have hf := (if_neg c10).symm.trans hf
      refine lv_iload_n hx hb dX9_count_25 rfl (lv_at hl 1 rfl) ?_
      refine lv_iconst (v := 1) hx hb dX9_count_26 (by decide) ?_
      refine lv_icmp_ne (tgt := 39) hx hb dX9_count_27 (by decide) (fun c11 => ?_) (fun c11 => ?_)
      · have hf := (if_neg c11).symm.trans hf
        refine lv_iload_n hx hb dX9_count_39 rfl (lv_at hl 1 rfl) ?_
        refine lv_iconst (v := 2) hx hb dX9_count_40 (by decide) ?_
        refine lv_icmp_ne (tgt := 53) hx hb dX9_count_41 (by decide) (fun c12 => ?_) (fun c12 => ?_)
        · have hf := (if_neg c12).symm.trans hf
          refine lv_aload_n hx hb dX9_count_53 rfl (lv_at hl 0 rfl) ?_
          refine r_get X hP 0 (wX9_g0_0 _ _ _ _) rfl inc_X9 3 (by decide) fl_X9_13 rfl dX9_count_54 ?_
          refine lv_iconst (v := 2) hx hb dX9_count_57 (by decide) ?_
          obtain ⟨h13, hf⟩ := chk_in hf
          refine r_iald X hP 2 (wX9_g0_2 _ _ _ _) h13 dX9_count_58 ?_
          exact J1 (σ 2 (2 : Int32).toNatClampNeg) hf H locs ls hP hD hS (lv_sub hl [0, 1] rfl)
        · have hf := (if_pos c12).symm.trans hf
          refine lv_aload_n hx hb dX9_count_44 rfl (lv_at hl 0 rfl) ?_
          refine r_get X hP 0 (wX9_g0_0 _ _ _ _) rfl inc_X9 3 (by decide) fl_X9_13 rfl dX9_count_45 ?_
          refine lv_iconst (v := 3) hx hb dX9_count_48 (by decide) ?_
          obtain ⟨h14, hf⟩ := chk_in hf
          refine r_iald X hP 2 (wX9_g0_2 _ _ _ _) h14 dX9_count_49 ?_
          refine lv_goto (tgt := 59) hx hb dX9_count_50 (by decide) ?_
          exact J1 (σ 2 (3 : Int32).toNatClampNeg) hf H locs ls hP hD hS (lv_sub hl [0, 1] rfl)
      · have hf := (if_pos c11).symm.trans hf
        refine lv_aload_n hx hb dX9_count_30 rfl (lv_at hl 0 rfl) ?_
        refine r_get X hP 0 (wX9_g0_0 _ _ _ _) rfl inc_X9 3 (by decide) fl_X9_13 rfl dX9_count_31 ?_
        refine lv_iconst (v := 1) hx hb dX9_count_34 (by decide) ?_
        obtain ⟨h15, hf⟩ := chk_in hf
        refine r_iald X hP 2 (wX9_g0_2 _ _ _ _) h15 dX9_count_35 ?_
        refine lv_goto (tgt := 59) hx hb dX9_count_36 (by decide) ?_
        exact J1 (σ 2 (1 : Int32).toNatClampNeg) hf H locs ls hP hD hS (lv_sub hl [0, 1] rfl)
    · have hf := (if_pos c10).symm.trans hf
      refine lv_aload_n hx hb dX9_count_16 rfl (lv_at hl 0 rfl) ?_
      refine r_get X hP 0 (wX9_g0_0 _ _ _ _) rfl inc_X9 3 (by decide) fl_X9_13 rfl dX9_count_17 ?_
      refine lv_iconst (v := 0) hx hb dX9_count_20 (by decide) ?_
      obtain ⟨h16, hf⟩ := chk_in hf
      refine r_iald X hP 2 (wX9_g0_2 _ _ _ _) h16 dX9_count_21 ?_
      refine lv_goto (tgt := 59) hx hb dX9_count_22 (by decide) ?_
      exact J1 (σ 2 (0 : Int32).toNatClampNeg) hf H locs ls hP hD hS (lv_sub hl [0, 1] rfl)
  · have hf := (if_pos c2).symm.trans hf
    refine lv_iconst (v := (-1)) hx hb dX9_count_10 (by decide) ?_
    have ho := Option.some.inj hf
    exact r_iret X hr hP hS ho rfl dX9_count_11
def rm_X9_day : Room := { frames := 0, cells := 0, slots := 0, locals := 0 }
theorem pv_X9_day : PkV RX9 yX9_day cX9_day 1 (some .int) 0 := ⟨im_X9_day, se_X9_day, ini_X9, cd_X9_day, by decide +kernel⟩
set_option maxHeartbeats 4000000 in
set_option maxRecDepth 100000 in
theorem c_X9_day (l : Launch) (E : Ev) (a : Nat → Nat) (σ : Sg) (tr : Int64) {out : Int32 × Sg} (hf : f_X9_day σ tr = some out) : MtI l yX9_day (wl yX9_day cX9_day 1 (some .int)) rm_X9_day E [.ref (a 0)] (wX9 E a σ tr) out.1 (wX9 E a out.2 tr) := by
  refine mt_of (QQ := (fun A => va_Qi (fun x (_ : Unit) => x = out.1) (fun _ t => QW E (wX9 E a out.2 tr) t) A)) (by decide) (Nat.le_of_ble_eq_true rfl) (fun p e s m below meth c A ls X hr hP hD hS hl => ?_)
  have hx := X.1.1
  have hb := X.1.2.1
  have hl : lv_has ls 1 [(0, .ref (a 0))] := hl
  obtain ⟨H, hHe⟩ : ∃ H : Heap, H = s.heap := ⟨_, rfl⟩
  obtain ⟨locs, hLe⟩ : ∃ locs : List Loc, locs = [] := ⟨_, rfl⟩
  have hP : va_P E.1 vwCl (wX9 E a σ tr) H := by rw [hHe]; exact hP
  have hS : va_S A s.heap H locs := by rw [hHe, hLe]; exact hS
  rw [← hLe, show W p l e rm_X9_day s m ([.ref (a 0)] : List Value).toArray below meth c s.heap locs 0 0 = W p l e rm_X9_day s m ([.ref (a 0)] : List Value).toArray below meth c H locs 0 0 from by rw [hHe]]
  refine lv_aload_n hx hb dX9_day_0 rfl (lv_at hl 0 rfl) ?_
  refine r_get X hP 0 (wX9_g0_0 _ _ _ _) rfl inc_X9 5 (by decide) fl_X9_19 rfl dX9_day_1 ?_
  refine lv_iconst (v := 1) hx hb dX9_day_4 (by decide) ?_
  refine lv_iconst (v := 0) hx hb dX9_day_5 (by decide) ?_
  obtain ⟨h1, hf⟩ := chk_in hf
  refine r_iast X hP hD hS 4 (wX9_g0_4 _ _ _ _) h1 (wX9_t0_4 _ _ _ _ _ _) dX9_day_6 (fun H locs hP hD hS => ?_)
  refine lv_aload_n hx hb dX9_day_7 rfl (lv_at hl 0 rfl) ?_
  refine r_get X hP 0 (wX9_g0_0 _ _ _ _) rfl inc_X9 5 (by decide) fl_X9_19 rfl dX9_day_8 ?_
  refine lv_iconst (v := 0) hx hb dX9_day_11 (by decide) ?_
  refine lv_dup2_11 hx hb dX9_day_12 rfl rfl ?_
  obtain ⟨h2, hf⟩ := chk_in hf
  refine r_iald X hP 4 (wX9_g0_4 _ _ _ _) h2 dX9_day_13 ?_
  refine lv_iconst (v := 1) hx hb dX9_day_14 (by decide) ?_
  refine lv_iadd hx hb dX9_day_15 ?_
  obtain ⟨h3, hf⟩ := chk_in hf
  refine r_iast X hP hD hS 4 (wX9_g0_4 _ _ _ _) h3 (wX9_t0_4 _ _ _ _ _ _) dX9_day_16 (fun H locs hP hD hS => ?_)
  refine lv_aload_n hx hb dX9_day_17 rfl (lv_at hl 0 rfl) ?_
  refine r_get X hP 0 (wX9_g0_0 _ _ _ _) rfl inc_X9 5 (by decide) fl_X9_19 rfl dX9_day_18 ?_
  refine lv_iconst (v := 0) hx hb dX9_day_21 (by decide) ?_
  obtain ⟨h4, hf⟩ := chk_in hf
  refine r_iald X hP 4 (wX9_g0_4 _ _ _ _) h4 dX9_day_22 ?_
  have ho := Option.some.inj hf
  have hv : ((sg_st (sg_st σ 4 (1 : Int32).toNatClampNeg 0) 4 (0 : Int32).toNatClampNeg (((sg_st σ 4 (1 : Int32).toNatClampNeg 0) 4 (0 : Int32).toNatClampNeg) + 1)) 4 (0 : Int32).toNatClampNeg) = out.1 := by rw [← ho]
  have hw := congrArg (fun o : Int32 × Sg => (wX9 E a o.2 tr)) ho
  exact r_iret X hr hP hS hv hw dX9_day_23
def rm_X9_draftCells : Room := { frames := 0, cells := 0, slots := 0, locals := 0 }
theorem pv_X9_draftCells : PkV RX9 yX9_draftCells cX9_draftCells 1 (some .int) 0 := ⟨im_X9_draftCells, se_X9_draftCells, ini_X9, cd_X9_draftCells, by decide +kernel⟩
set_option maxHeartbeats 4000000 in
set_option maxRecDepth 100000 in
theorem c_X9_draftCells (l : Launch) (E : Ev) (a : Nat → Nat) (σ : Sg) (tr : Int64) {out : Int32} (hf : f_X9_draftCells σ tr = some out) : MtI l yX9_draftCells (wl yX9_draftCells cX9_draftCells 1 (some .int)) rm_X9_draftCells E [.ref (a 0)] (wX9 E a σ tr) out (wX9 E a σ tr) := by
  refine mt_of (QQ := (fun A => va_Qi (fun x (_ : Unit) => x = out) (fun _ t => QW E (wX9 E a σ tr) t) A)) (by decide) (Nat.le_of_ble_eq_true rfl) (fun p e s m below meth c A ls X hr hP hD hS hl => ?_)
  have hx := X.1.1
  have hb := X.1.2.1
  have hl : lv_has ls 1 [(0, .ref (a 0))] := hl
  obtain ⟨H, hHe⟩ : ∃ H : Heap, H = s.heap := ⟨_, rfl⟩
  obtain ⟨locs, hLe⟩ : ∃ locs : List Loc, locs = [] := ⟨_, rfl⟩
  have hP : va_P E.1 vwCl (wX9 E a σ tr) H := by rw [hHe]; exact hP
  have hS : va_S A s.heap H locs := by rw [hHe, hLe]; exact hS
  rw [← hLe, show W p l e rm_X9_draftCells s m ([.ref (a 0)] : List Value).toArray below meth c s.heap locs 0 0 = W p l e rm_X9_draftCells s m ([.ref (a 0)] : List Value).toArray below meth c H locs 0 0 from by rw [hHe]]
  refine lv_aload_n hx hb dX9_draftCells_0 rfl (lv_at hl 0 rfl) ?_
  refine r_get X hP 0 (wX9_g0_0 _ _ _ _) rfl inc_X9 4 (by decide) fl_X9_16 rfl dX9_draftCells_1 ?_
  refine lv_iconst (v := 0) hx hb dX9_draftCells_4 (by decide) ?_
  obtain ⟨h1, hf⟩ := chk_in hf
  refine r_iald X hP 3 (wX9_g0_3 _ _ _ _) h1 dX9_draftCells_5 ?_
  refine lv_aload_n hx hb dX9_draftCells_6 rfl (lv_at hl 0 rfl) ?_
  refine r_get X hP 0 (wX9_g0_0 _ _ _ _) rfl inc_X9 4 (by decide) fl_X9_16 rfl dX9_draftCells_7 ?_
  refine lv_iconst (v := 1) hx hb dX9_draftCells_10 (by decide) ?_
  obtain ⟨h2, hf⟩ := chk_in hf
  refine r_iald X hP 3 (wX9_g0_3 _ _ _ _) h2 dX9_draftCells_11 ?_
  refine lv_imul hx hb dX9_draftCells_12 ?_
  have ho := Option.some.inj hf
  exact r_iret X hr hP hS ho rfl dX9_draftCells_13
def rm_X9_fitsAt : Room := { frames := 1, cells := 0, slots := 0, locals := 29 }
theorem pv_X9_fitsAt : PkV RX9 yX9_fitsAt cX9_fitsAt 4 (some .int) 1 := ⟨im_X9_fitsAt, se_X9_fitsAt, ini_X9, cd_X9_fitsAt, by decide +kernel⟩
set_option maxHeartbeats 4000000 in
set_option maxRecDepth 100000 in
theorem c_X9_fitsAt (l : Launch) (E : Ev) (a : Nat → Nat) (σ : Sg) (tr : Int64) (p1 : Int32) {out : Int32} (hf : f_X9_fitsAt σ tr p1 = some out) : MtI l yX9_fitsAt (wl yX9_fitsAt cX9_fitsAt 4 (some .int)) rm_X9_fitsAt E [.ref (a 0), .int p1] (wX9 E a σ tr) out (wX9 E a σ tr) := by
  refine mt_of (QQ := (fun A => va_Qi (fun x (_ : Unit) => x = out) (fun _ t => QW E (wX9 E a σ tr) t) A)) (by decide) (Nat.le_of_ble_eq_true rfl) (fun p e s m below meth c A ls X hr hP hD hS hl => ?_)
  have hx := X.1.1
  have hb := X.1.2.1
  have hl : lv_has ls 4 [(0, .ref (a 0)), (1, .int p1)] := hl
  obtain ⟨H, hHe⟩ : ∃ H : Heap, H = s.heap := ⟨_, rfl⟩
  obtain ⟨locs, hLe⟩ : ∃ locs : List Loc, locs = [] := ⟨_, rfl⟩
  have hP : va_P E.1 vwCl (wX9 E a σ tr) H := by rw [hHe]; exact hP
  have hS : va_S A s.heap H locs := by rw [hHe, hLe]; exact hS
  rw [← hLe, show W p l e rm_X9_fitsAt s m ([.ref (a 0), .int p1] : List Value).toArray below meth c s.heap locs 0 0 = W p l e rm_X9_fitsAt s m ([.ref (a 0), .int p1] : List Value).toArray below meth c H locs 0 0 from by rw [hHe]]
  refine lv_iconst (v := 1) hx hb dX9_fitsAt_0 (by decide) ?_
  refine lv_istore_n (lv' := [(2, .int 1), (0, .ref (a 0)), (1, .int p1)]) hx hb dX9_fitsAt_1 rfl hl (by decide) rfl (fun ls hl => ?_)
  refine lv_iconst (v := 0) hx hb dX9_fitsAt_2 (by decide) ?_
  refine lv_istore_n (lv' := [(3, .int 0), (2, .int 1), (0, .ref (a 0)), (1, .int p1)]) hx hb dX9_fitsAt_3 rfl hl (by decide) rfl (fun ls hl => ?_)
  have J1 : ∀ (x1 : Int32), j_X9_fitsAt_1 x1 = some out → ∀ (H : Heap) (locs : List Loc) (ls : Array Slot), va_P E.1 vwCl (wX9 E a σ tr) H → va_D A (wX9 E a σ tr) → va_S A s.heap H locs → lv_has ls 4 [(2, .int x1)] → W p l e rm_X9_fitsAt s m ([.ref (a 0), .int p1] : List Value).toArray below meth c H locs 0 0 (MQ below (va_Qi (fun x (_ : Unit) => x = out) (fun _ t => QW E (wX9 E a σ tr) t) A) ([.ref (a 0), .int p1] : List Value).toArray s 0 0 A) (F0 m 48 ls []) := by
    intro x1 hf H locs ls hP hD hS hl
    refine lv_iload_n hx hb dX9_fitsAt_48 rfl (lv_at hl 0 rfl) ?_
    refine lv_if_eq (tgt := 56) hx hb dX9_fitsAt_49 (by decide) (fun c2 => ?_) (fun c2 => ?_)
    · have hf := (if_pos c2).symm.trans hf
      refine lv_iconst (v := 0) hx hb dX9_fitsAt_56 (by decide) ?_
      have ho := Option.some.inj hf
      exact r_iret X hr hP hS ho rfl dX9_fitsAt_57
    · have hf := (if_neg c2).symm.trans hf
      refine lv_iconst (v := 1) hx hb dX9_fitsAt_52 (by decide) ?_
      refine lv_goto (tgt := 57) hx hb dX9_fitsAt_53 (by decide) ?_
      have ho := Option.some.inj hf
      exact r_iret X hr hP hS ho rfl dX9_fitsAt_57
  have L6 := lc2_ind (o := out) (step := (s_X9_fitsAt_4 σ tr p1 j_X9_fitsAt_1)) (fun x3 x4 => ∀ (H : Heap) (locs : List Loc) (ls : Array Slot), va_P E.1 vwCl (wX9 E a σ tr) H → va_D A (wX9 E a σ tr) → va_S A s.heap H locs → lv_has ls 4 [(0, .ref (a 0)), (1, .int p1), (2, .int x3), (3, .int x4)] → W p l e rm_X9_fitsAt s m ([.ref (a 0), .int p1] : List Value).toArray below meth c H locs 0 0 (MQ below (va_Qi (fun x (_ : Unit) => x = out) (fun _ t => QW E (wX9 E a σ tr) t) A) ([.ref (a 0), .int p1] : List Value).toArray s 0 0 A) (F0 m 4 ls [])) (fun x3 x4 k5 ih6 hf H locs ls hP hD hS hl => by
    refine lv_iload_n hx hb dX9_fitsAt_4 rfl (lv_at hl 3 rfl) ?_
    refine lv_aload_n hx hb dX9_fitsAt_5 rfl (lv_at hl 0 rfl) ?_
    refine r_get X hP 0 (wX9_g0_0 _ _ _ _) rfl inc_X9 10 (by decide) fl_X9_126 rfl dX9_fitsAt_6 ?_
    refine lv_icmp_ge (tgt := 48) hx hb dX9_fitsAt_9 (by decide) (fun c7 => ?_) (fun c7 => ?_)
    · have hf := (if_pos c7).symm.trans hf
      exact J1 x3 hf H locs ls hP hD hS (lv_sub hl [2] rfl)
    · have hf := (if_neg c7).symm.trans hf
      refine lv_iload_n hx hb dX9_fitsAt_12 rfl (lv_at hl 2 rfl) ?_
      refine lv_if_eq (tgt := 40) hx hb dX9_fitsAt_13 (by decide) (fun c8 => ?_) (fun c8 => ?_)
      · have hf := (if_pos c8).symm.trans hf
        refine lv_iconst (v := 0) hx hb dX9_fitsAt_40 (by decide) ?_
        refine lv_istore_n (lv' := [(2, .int 0), (0, .ref (a 0)), (1, .int p1), (3, .int x4)]) hx hb dX9_fitsAt_41 rfl hl (by decide) rfl (fun ls hl => ?_)
        refine lv_iinc (v := (x4 + 1)) (lv' := [(3, .int (x4 + 1)), (2, .int 0), (0, .ref (a 0)), (1, .int p1)]) hx hb dX9_fitsAt_42 hl (k := 3) rfl rfl (by decide) rfl (fun ls hl => ?_)
        refine lv_goto (tgt := 4) hx hb dX9_fitsAt_45 (by decide) ?_
        exact ih6 0 (x4 + 1) hf H locs ls hP hD hS (lv_sub hl [2, 3, 1, 0] rfl)
      · have hf := (if_neg c8).symm.trans hf
        refine lv_aload_n hx hb dX9_fitsAt_16 rfl (lv_at hl 0 rfl) ?_
        refine lv_iload_n hx hb dX9_fitsAt_17 rfl (lv_at hl 1 rfl) ?_
        refine lv_aload_n hx hb dX9_fitsAt_18 rfl (lv_at hl 0 rfl) ?_
        refine r_get X hP 0 (wX9_g0_0 _ _ _ _) rfl inc_X9 8 (by decide) fl_X9_29 rfl dX9_fitsAt_19 ?_
        refine lv_iload_n hx hb dX9_fitsAt_22 rfl (lv_at hl 3 rfl) ?_
        obtain ⟨h9, hf⟩ := chk_in hf
        refine r_iald X hP 7 (wX9_g0_7 _ _ _ _) h9 dX9_fitsAt_23 ?_
        refine lv_aload_n hx hb dX9_fitsAt_24 rfl (lv_at hl 0 rfl) ?_
        refine r_get X hP 0 (wX9_g0_0 _ _ _ _) rfl inc_X9 9 (by decide) fl_X9_32 rfl dX9_fitsAt_25 ?_
        refine lv_iload_n hx hb dX9_fitsAt_28 rfl (lv_at hl 3 rfl) ?_
        obtain ⟨h10, hf⟩ := chk_in hf
        refine r_iald X hP 8 (wX9_g0_8 _ _ _ _) h10 dX9_fitsAt_29 ?_
        obtain ⟨z11, hz11, hf⟩ := obd hf
        refine cV_allI X (As := [.int p1, .int (σ 7 (x4 : Int32).toNatClampNeg), .int (σ 8 (x4 : Int32).toNatClampNeg)]) (rest := []) (c_X9_touches l E a σ tr p1 (σ 7 (x4 : Int32).toNatClampNeg) (σ 8 (x4 : Int32).toNatClampNeg) hz11) pv_X9_touches ml_X9_144 ⟨rfl, rfl⟩ ⟨(Nat.le_of_ble_eq_true rfl), (Nat.le_of_ble_eq_true rfl)⟩ hP hD hS (wX9_g0_0 _ _ _ _) rfl (wX9_adr _ _ _ _ _ _) rfl hl.1 rfl (Nat.le_of_ble_eq_true rfl) dX9_fitsAt_30 ⟨Nat.le_refl _, Nat.le_refl _⟩ (fun H locs hP hD hS => ?_)
        refine lv_if_le (tgt := 40) hx hb dX9_fitsAt_33 (by decide) (fun c12 => ?_) (fun c12 => ?_)
        · have hf := (if_pos c12).symm.trans hf
          refine lv_iconst (v := 0) hx hb dX9_fitsAt_40 (by decide) ?_
          refine lv_istore_n (lv' := [(2, .int 0), (0, .ref (a 0)), (1, .int p1), (3, .int x4)]) hx hb dX9_fitsAt_41 rfl hl (by decide) rfl (fun ls hl => ?_)
          refine lv_iinc (v := (x4 + 1)) (lv' := [(3, .int (x4 + 1)), (2, .int 0), (0, .ref (a 0)), (1, .int p1)]) hx hb dX9_fitsAt_42 hl (k := 3) rfl rfl (by decide) rfl (fun ls hl => ?_)
          refine lv_goto (tgt := 4) hx hb dX9_fitsAt_45 (by decide) ?_
          exact ih6 0 (x4 + 1) hf H locs ls hP hD hS (lv_sub hl [2, 3, 1, 0] rfl)
        · have hf := (if_neg c12).symm.trans hf
          refine lv_iconst (v := 1) hx hb dX9_fitsAt_36 (by decide) ?_
          refine lv_goto (tgt := 41) hx hb dX9_fitsAt_37 (by decide) ?_
          refine lv_istore_n (lv' := [(2, .int 1), (0, .ref (a 0)), (1, .int p1), (3, .int x4)]) hx hb dX9_fitsAt_41 rfl hl (by decide) rfl (fun ls hl => ?_)
          refine lv_iinc (v := (x4 + 1)) (lv' := [(3, .int (x4 + 1)), (2, .int 1), (0, .ref (a 0)), (1, .int p1)]) hx hb dX9_fitsAt_42 hl (k := 3) rfl rfl (by decide) rfl (fun ls hl => ?_)
          refine lv_goto (tgt := 4) hx hb dX9_fitsAt_45 (by decide) ?_
          exact ih6 1 (x4 + 1) hf H locs ls hP hD hS (lv_sub hl [2, 3, 1, 0] rfl))
  exact L6 1000 1 0 hf H locs ls hP hD hS (lv_sub hl [2, 3, 1, 0] rfl)
def rm_X9_fits : Room := { frames := 3, cells := 0, slots := 0, locals := 81 }
theorem pv_X9_fits : PkV RX9 yX9_fits cX9_fits 6 (some .int) 1 := ⟨im_X9_fits, se_X9_fits, ini_X9, cd_X9_fits, by decide +kernel⟩
set_option maxHeartbeats 4000000 in
set_option maxRecDepth 100000 in
theorem c_X9_fits (l : Launch) (E : Ev) (a : Nat → Nat) (σ : Sg) (tr : Int64) (p1 : Int32) {out : Int32 × Sg} (hf : f_X9_fits σ tr p1 = some out) : MtI l yX9_fits (wl yX9_fits cX9_fits 6 (some .int)) rm_X9_fits E [.ref (a 0), .int p1] (wX9 E a σ tr) out.1 (wX9 E a out.2 tr) := by
  refine mt_of (QQ := (fun A => va_Qi (fun x (_ : Unit) => x = out.1) (fun _ t => QW E (wX9 E a out.2 tr) t) A)) (by decide) (Nat.le_of_ble_eq_true rfl) (fun p e s m below meth c A ls X hr hP hD hS hl => ?_)
  have hx := X.1.1
  have hb := X.1.2.1
  have hl : lv_has ls 6 [(0, .ref (a 0)), (1, .int p1)] := hl
  obtain ⟨H, hHe⟩ : ∃ H : Heap, H = s.heap := ⟨_, rfl⟩
  obtain ⟨locs, hLe⟩ : ∃ locs : List Loc, locs = [] := ⟨_, rfl⟩
  have hP : va_P E.1 vwCl (wX9 E a σ tr) H := by rw [hHe]; exact hP
  have hS : va_S A s.heap H locs := by rw [hHe, hLe]; exact hS
  rw [← hLe, show W p l e rm_X9_fits s m ([.ref (a 0), .int p1] : List Value).toArray below meth c s.heap locs 0 0 = W p l e rm_X9_fits s m ([.ref (a 0), .int p1] : List Value).toArray below meth c H locs 0 0 from by rw [hHe]]
  refine lv_iload_n hx hb dX9_fits_0 rfl (lv_at hl 1 rfl) ?_
  refine lv_iconst (v := 0) hx hb dX9_fits_1 (by decide) ?_
  refine lv_iconst (v := 2) hx hb dX9_fits_2 (by decide) ?_
  obtain ⟨z1, hz1, hf⟩ := obd hf
  refine cS_roI X (As := [.int p1, .int 0, .int 2]) (rest := []) (c_X9_in l E p1 0 2 hz1) ps_X9_in ml_X9_55 ⟨rfl, rfl⟩ ⟨(Nat.le_of_ble_eq_true rfl), (Nat.le_of_ble_eq_true rfl)⟩ hP hD hS (is := []) (wc := []) rfl rfl rfl hl.1 rfl (Nat.le_of_ble_eq_true rfl) dX9_fits_3 ⟨Nat.le_refl _, Nat.le_refl _⟩ (fun H locs hP hS => ?_)
  refine lv_if_ne (tgt := 11) hx hb dX9_fits_6 (by decide) (fun c2 => ?_) (fun c2 => ?_)
  · have hf := (if_neg c2).symm.trans hf
    refine lv_aload_n hx hb dX9_fits_11 rfl (lv_at hl 0 rfl) ?_
    obtain ⟨z3, hz3, hf⟩ := obd hf
    refine cV_allV X (As := []) (rest := []) (c_X9_flat l E a σ tr hz3) pv_X9_flat ml_X9_133 ⟨rfl, rfl⟩ ⟨(Nat.le_of_ble_eq_true rfl), (Nat.le_of_ble_eq_true rfl)⟩ hP hD hS (wX9_g0_0 _ _ _ _) rfl (wX9_adr _ _ _ _ _ _) rfl hl.1 rfl (Nat.le_of_ble_eq_true rfl) dX9_fits_12 ⟨Nat.le_refl _, Nat.le_refl _⟩ (fun H locs hP hD hS => ?_)
    refine lv_iload_n hx hb dX9_fits_15 rfl (lv_at hl 1 rfl) ?_
    refine lv_if_ne (tgt := 27) hx hb dX9_fits_16 (by decide) (fun c4 => ?_) (fun c4 => ?_)
    · have hf := (if_neg c4).symm.trans hf
      refine lv_iconst (v := 0) hx hb dX9_fits_27 (by decide) ?_
      refine lv_istore_n (lv' := [(2, .int 0), (0, .ref (a 0)), (1, .int p1)]) hx hb dX9_fits_28 rfl hl (by decide) rfl (fun ls hl => ?_)
      refine lv_iconst (v := 0) hx hb dX9_fits_29 (by decide) ?_
      refine lv_istore_n (lv' := [(3, .int 0), (2, .int 0), (0, .ref (a 0)), (1, .int p1)]) hx hb dX9_fits_30 rfl hl (by decide) rfl (fun ls hl => ?_)
      have L8 := lc3_ind (o := out) (step := (s_X9_fits_31 tr p1)) (fun x5 x6 g7 => ∀ (H : Heap) (locs : List Loc) (ls : Array Slot), va_P E.1 vwCl (wX9 E a g7 tr) H → va_D A (wX9 E a g7 tr) → va_S A s.heap H locs → lv_has ls 6 [(0, .ref (a 0)), (1, .int p1), (2, .int x5), (3, .int x6)] → W p l e rm_X9_fits s m ([.ref (a 0), .int p1] : List Value).toArray below meth c H locs 0 0 (MQ below (va_Qi (fun x (_ : Unit) => x = out.1) (fun _ t => QW E (wX9 E a out.2 tr) t) A) ([.ref (a 0), .int p1] : List Value).toArray s 0 0 A) (F0 m 31 ls [])) (fun x5 x6 g7 k8 ih8 hf H locs ls hP hD hS hl => by
        refine lv_iload_n hx hb dX9_fits_31 rfl (lv_at hl 3 rfl) ?_
        refine lv_bipush (v := 24) hx hb dX9_fits_32 (by decide) ?_
        refine lv_icmp_ge (tgt := 125) hx hb dX9_fits_34 (by decide) (fun c9 => ?_) (fun c9 => ?_)
        · have hf := (if_pos c9).symm.trans hf
          refine lv_iload_n hx hb dX9_fits_125 rfl (lv_at hl 2 rfl) ?_
          have ho := Option.some.inj hf
          have hv : x5 = out.1 := by rw [← ho]
          have hw := congrArg (fun o : Int32 × Sg => (wX9 E a o.2 tr)) ho
          exact r_iret X hr hP hS hv hw dX9_fits_126
        · have hf := (if_neg c9).symm.trans hf
          refine lv_iload_n hx hb dX9_fits_37 rfl (lv_at hl 1 rfl) ?_
          refine lv_if_le (tgt := 125) hx hb dX9_fits_38 (by decide) (fun c10 => ?_) (fun c10 => ?_)
          · have hf := (if_pos c10).symm.trans hf
            refine lv_iload_n hx hb dX9_fits_125 rfl (lv_at hl 2 rfl) ?_
            have ho := Option.some.inj hf
            have hv : x5 = out.1 := by rw [← ho]
            have hw := congrArg (fun o : Int32 × Sg => (wX9 E a o.2 tr)) ho
            exact r_iret X hr hP hS hv hw dX9_fits_126
          · have hf := (if_neg c10).symm.trans hf
            refine lv_aload_n hx hb dX9_fits_41 rfl (lv_at hl 0 rfl) ?_
            refine lv_iconst (v := 0) hx hb dX9_fits_42 (by decide) ?_
            refine lv_iload_n hx hb dX9_fits_43 rfl (lv_at hl 3 rfl) ?_
            obtain ⟨z11, hz11, hf⟩ := obd hf
            refine cV_allI X (As := [.int 0, .int x6]) (rest := []) (c_X9_folds l E a g7 tr 0 x6 hz11) pv_X9_folds ml_X9_136 ⟨rfl, rfl⟩ ⟨(Nat.le_of_ble_eq_true rfl), (Nat.le_of_ble_eq_true rfl)⟩ hP hD hS (wX9_g0_0 _ _ _ _) rfl (wX9_adr _ _ _ _ _ _) rfl hl.1 rfl (Nat.le_of_ble_eq_true rfl) dX9_fits_44 ⟨Nat.le_refl _, Nat.le_refl _⟩ (fun H locs hP hD hS => ?_)
            refine lv_istore (lv' := [(4, .int z11.1), (0, .ref (a 0)), (1, .int p1), (2, .int x5), (3, .int x6)]) hx hb dX9_fits_47 hl (by decide) rfl (fun ls hl => ?_)
            refine lv_iload_n hx hb dX9_fits_49 rfl (lv_at hl 3 rfl) ?_
            refine lv_iload hx hb dX9_fits_50 (lv_at hl 0 rfl) ?_
            have J1 : ∀ (x12 : Int32), j_X9_fits_1 tr p1 x5 x6 k8 z11 x12 = some out → ∀ (H : Heap) (locs : List Loc) (ls : Array Slot), va_P E.1 vwCl (wX9 E a z11.2 tr) H → va_D A (wX9 E a z11.2 tr) → va_S A s.heap H locs → lv_has ls 6 [(0, .ref (a 0)), (1, .int p1), (3, .int x6), (4, .int z11.1)] → W p l e rm_X9_fits s m ([.ref (a 0), .int p1] : List Value).toArray below meth c H locs 0 0 (MQ below (va_Qi (fun x (_ : Unit) => x = out.1) (fun _ t => QW E (wX9 E a out.2 tr) t) A) ([.ref (a 0), .int p1] : List Value).toArray s 0 0 A) (F0 m 69 ls [.int x12, .int x5]) := by
              intro x12 hf H locs ls hP hD hS hl
              refine lv_iadd hx hb dX9_fits_69 ?_
              refine lv_istore_n (lv' := [(2, .int (x5 + x12)), (0, .ref (a 0)), (1, .int p1), (3, .int x6), (4, .int z11.1)]) hx hb dX9_fits_70 rfl hl (by decide) rfl (fun ls hl => ?_)
              refine lv_iconst (v := 0) hx hb dX9_fits_71 (by decide) ?_
              refine lv_istore (lv' := [(5, .int 0), (2, .int (x5 + x12)), (0, .ref (a 0)), (1, .int p1), (3, .int x6), (4, .int z11.1)]) hx hb dX9_fits_72 hl (by decide) rfl (fun ls hl => ?_)
              have L16 := lc3_ind (o := out) (step := (s_X9_fits_74 tr p1 x6 k8 z11)) (fun x13 x14 g15 => ∀ (H : Heap) (locs : List Loc) (ls : Array Slot), va_P E.1 vwCl (wX9 E a g15 tr) H → va_D A (wX9 E a g15 tr) → va_S A s.heap H locs → lv_has ls 6 [(0, .ref (a 0)), (1, .int p1), (2, .int x13), (3, .int x6), (4, .int z11.1), (5, .int x14)] → W p l e rm_X9_fits s m ([.ref (a 0), .int p1] : List Value).toArray below meth c H locs 0 0 (MQ below (va_Qi (fun x (_ : Unit) => x = out.1) (fun _ t => QW E (wX9 E a out.2 tr) t) A) ([.ref (a 0), .int p1] : List Value).toArray s 0 0 A) (F0 m 74 ls [])) (fun x13 x14 g15 k16 ih16 hf H locs ls hP hD hS hl => by
                refine lv_iload hx hb dX9_fits_74 (lv_at hl 5 rfl) ?_
                refine lv_bipush (v := 24) hx hb dX9_fits_76 (by decide) ?_
                refine lv_icmp_ge (tgt := 119) hx hb dX9_fits_78 (by decide) (fun c17 => ?_) (fun c17 => ?_)
                · have hf := (if_pos c17).symm.trans hf
                  refine lv_iinc (v := (x6 + 1)) (lv' := [(3, .int (x6 + 1)), (0, .ref (a 0)), (1, .int p1), (2, .int x13), (4, .int z11.1), (5, .int x14)]) hx hb dX9_fits_119 hl (k := 3) rfl rfl (by decide) rfl (fun ls hl => ?_)
                  refine lv_goto (tgt := 31) hx hb dX9_fits_122 (by decide) ?_
                  exact ih8 x13 (x6 + 1) g15 hf H locs ls hP hD hS (lv_sub hl [1, 2, 3, 0] rfl)
                · have hf := (if_neg c17).symm.trans hf
                  refine lv_iload hx hb dX9_fits_81 (lv_at hl 4 rfl) ?_
                  refine lv_if_eq (tgt := 119) hx hb dX9_fits_83 (by decide) (fun c18 => ?_) (fun c18 => ?_)
                  · have hf := (if_pos c18).symm.trans hf
                    refine lv_iinc (v := (x6 + 1)) (lv' := [(3, .int (x6 + 1)), (0, .ref (a 0)), (1, .int p1), (2, .int x13), (4, .int z11.1), (5, .int x14)]) hx hb dX9_fits_119 hl (k := 3) rfl rfl (by decide) rfl (fun ls hl => ?_)
                    refine lv_goto (tgt := 31) hx hb dX9_fits_122 (by decide) ?_
                    exact ih8 x13 (x6 + 1) g15 hf H locs ls hP hD hS (lv_sub hl [1, 2, 3, 0] rfl)
                  · have hf := (if_neg c18).symm.trans hf
                    refine lv_iload_n hx hb dX9_fits_86 rfl (lv_at hl 1 rfl) ?_
                    refine lv_iconst (v := 2) hx hb dX9_fits_87 (by decide) ?_
                    refine lv_icmp_ne (tgt := 119) hx hb dX9_fits_88 (by decide) (fun c19 => ?_) (fun c19 => ?_)
                    · have hf := (if_neg c19).symm.trans hf
                      refine lv_iinc (v := (x6 + 1)) (lv' := [(3, .int (x6 + 1)), (0, .ref (a 0)), (1, .int p1), (2, .int x13), (4, .int z11.1), (5, .int x14)]) hx hb dX9_fits_119 hl (k := 3) rfl rfl (by decide) rfl (fun ls hl => ?_)
                      refine lv_goto (tgt := 31) hx hb dX9_fits_122 (by decide) ?_
                      exact ih8 x13 (x6 + 1) g15 hf H locs ls hP hD hS (lv_sub hl [1, 2, 3, 0] rfl)
                    · have hf := (if_pos c19).symm.trans hf
                      refine lv_iload_n hx hb dX9_fits_91 rfl (lv_at hl 2 rfl) ?_
                      refine lv_aload_n hx hb dX9_fits_92 rfl (lv_at hl 0 rfl) ?_
                      refine lv_iconst (v := 1) hx hb dX9_fits_93 (by decide) ?_
                      refine lv_iload hx hb dX9_fits_94 (lv_at hl 5 rfl) ?_
                      obtain ⟨z20, hz20, hf⟩ := obd hf
                      refine cV_allI X (As := [.int 1, .int x14]) (rest := [.int x13]) (c_X9_folds l E a g15 tr 1 x14 hz20) pv_X9_folds ml_X9_136 ⟨rfl, rfl⟩ ⟨(Nat.le_of_ble_eq_true rfl), (Nat.le_of_ble_eq_true rfl)⟩ hP hD hS (wX9_g0_0 _ _ _ _) rfl (wX9_adr _ _ _ _ _ _) rfl hl.1 rfl (Nat.le_of_ble_eq_true rfl) dX9_fits_96 ⟨Nat.le_refl _, Nat.le_refl _⟩ (fun H locs hP hD hS => ?_)
                      have J2 : ∀ (x21 : Int32), j_X9_fits_2 x13 x14 k16 z20 x21 = some out → ∀ (H : Heap) (locs : List Loc) (ls : Array Slot), va_P E.1 vwCl (wX9 E a z20.2 tr) H → va_D A (wX9 E a z20.2 tr) → va_S A s.heap H locs → lv_has ls 6 [(0, .ref (a 0)), (1, .int p1), (3, .int x6), (4, .int z11.1), (5, .int x14)] → W p l e rm_X9_fits s m ([.ref (a 0), .int p1] : List Value).toArray below meth c H locs 0 0 (MQ below (va_Qi (fun x (_ : Unit) => x = out.1) (fun _ t => QW E (wX9 E a out.2 tr) t) A) ([.ref (a 0), .int p1] : List Value).toArray s 0 0 A) (F0 m 111 ls [.int x21, .int x13]) := by
                        intro x21 hf H locs ls hP hD hS hl
                        refine lv_iadd hx hb dX9_fits_111 ?_
                        refine lv_istore_n (lv' := [(2, .int (x13 + x21)), (0, .ref (a 0)), (1, .int p1), (3, .int x6), (4, .int z11.1), (5, .int x14)]) hx hb dX9_fits_112 rfl hl (by decide) rfl (fun ls hl => ?_)
                        refine lv_iinc (v := (x14 + 1)) (lv' := [(5, .int (x14 + 1)), (2, .int (x13 + x21)), (0, .ref (a 0)), (1, .int p1), (3, .int x6), (4, .int z11.1)]) hx hb dX9_fits_113 hl (k := 5) rfl rfl (by decide) rfl (fun ls hl => ?_)
                        refine lv_goto (tgt := 74) hx hb dX9_fits_116 (by decide) ?_
                        exact ih16 (x13 + x21) (x14 + 1) z20.2 hf H locs ls hP hD hS (lv_sub hl [2, 3, 1, 4, 5, 0] rfl)
                      refine lv_if_eq (tgt := 110) hx hb dX9_fits_99 (by decide) (fun c22 => ?_) (fun c22 => ?_)
                      · have hf := (if_pos c22).symm.trans hf
                        refine lv_iconst (v := 0) hx hb dX9_fits_110 (by decide) ?_
                        exact J2 0 hf H locs ls hP hD hS (lv_sub hl [0, 1, 3, 4, 5] rfl)
                      · have hf := (if_neg c22).symm.trans hf
                        refine lv_aload_n hx hb dX9_fits_102 rfl (lv_at hl 0 rfl) ?_
                        refine lv_iconst (v := 2) hx hb dX9_fits_103 (by decide) ?_
                        obtain ⟨z23, hz23, hf⟩ := obd hf
                        refine cV_allI X (As := [.int 2]) (rest := [.int x13]) (c_X9_fitsAt l E a z20.2 tr 2 hz23) pv_X9_fitsAt ml_X9_193 ⟨rfl, rfl⟩ ⟨(Nat.le_of_ble_eq_true rfl), (Nat.le_of_ble_eq_true rfl)⟩ hP hD hS (wX9_g0_0 _ _ _ _) rfl (wX9_adr _ _ _ _ _ _) rfl hl.1 rfl (Nat.le_of_ble_eq_true rfl) dX9_fits_104 ⟨Nat.le_refl _, Nat.le_refl _⟩ (fun H locs hP hD hS => ?_)
                        refine lv_goto (tgt := 111) hx hb dX9_fits_107 (by decide) ?_
                        exact J2 z23 hf H locs ls hP hD hS (lv_sub hl [0, 1, 3, 4, 5] rfl))
              exact L16 1000 (x5 + x12) 0 z11.2 hf H locs ls hP hD hS (lv_sub hl [2, 3, 1, 4, 5, 0] rfl)
            refine lv_if_eq (tgt := 68) hx hb dX9_fits_52 (by decide) (fun c24 => ?_) (fun c24 => ?_)
            · have hf := (if_pos c24).symm.trans hf
              refine lv_iconst (v := 0) hx hb dX9_fits_68 (by decide) ?_
              exact J1 0 hf H locs ls hP hD hS (lv_sub hl [1, 2, 4, 0] rfl)
            · have hf := (if_neg c24).symm.trans hf
              refine lv_iload_n hx hb dX9_fits_55 rfl (lv_at hl 2 rfl) ?_
              refine lv_iconst (v := 1) hx hb dX9_fits_56 (by decide) ?_
              refine lv_icmp_ne (tgt := 68) hx hb dX9_fits_57 (by decide) (fun c25 => ?_) (fun c25 => ?_)
              · have hf := (if_neg c25).symm.trans hf
                refine lv_iconst (v := 0) hx hb dX9_fits_68 (by decide) ?_
                exact J1 0 hf H locs ls hP hD hS (lv_sub hl [1, 2, 4, 0] rfl)
              · have hf := (if_pos c25).symm.trans hf
                refine lv_aload_n hx hb dX9_fits_60 rfl (lv_at hl 1 rfl) ?_
                refine lv_iconst (v := 1) hx hb dX9_fits_61 (by decide) ?_
                obtain ⟨z26, hz26, hf⟩ := obd hf
                refine cV_allI X (As := [.int 1]) (rest := [.int x5]) (c_X9_fitsAt l E a z11.2 tr 1 hz26) pv_X9_fitsAt ml_X9_193 ⟨rfl, rfl⟩ ⟨(Nat.le_of_ble_eq_true rfl), (Nat.le_of_ble_eq_true rfl)⟩ hP hD hS (wX9_g0_0 _ _ _ _) rfl (wX9_adr _ _ _ _ _ _) rfl hl.1 rfl (Nat.le_of_ble_eq_true rfl) dX9_fits_62 ⟨Nat.le_refl _, Nat.le_refl _⟩ (fun H locs hP hD hS => ?_)
                refine lv_goto (tgt := 69) hx hb dX9_fits_65 (by decide) ?_
                exact J1 z26 hf H locs ls hP hD hS (lv_sub hl [1, 2, 4, 0] rfl))
      exact L8 1000 0 0 z3 hf H locs ls hP hD hS (lv_sub hl [2, 3, 1, 0] rfl)
    · have hf := (if_pos c4).symm.trans hf
      refine lv_aload_n hx hb dX9_fits_19 rfl (lv_at hl 0 rfl) ?_
      refine lv_iconst (v := 0) hx hb dX9_fits_20 (by decide) ?_
      obtain ⟨z27, hz27, hf⟩ := obd hf
      refine cV_allI X (As := [.int 0]) (rest := []) (c_X9_fitsAt l E a z3 tr 0 hz27) pv_X9_fitsAt ml_X9_193 ⟨rfl, rfl⟩ ⟨(Nat.le_of_ble_eq_true rfl), (Nat.le_of_ble_eq_true rfl)⟩ hP hD hS (wX9_g0_0 _ _ _ _) rfl (wX9_adr _ _ _ _ _ _) rfl hl.1 rfl (Nat.le_of_ble_eq_true rfl) dX9_fits_21 ⟨Nat.le_refl _, Nat.le_refl _⟩ (fun H locs hP hD hS => ?_)
      refine lv_goto (tgt := 28) hx hb dX9_fits_24 (by decide) ?_
      refine lv_istore_n (lv' := [(2, .int z27), (0, .ref (a 0)), (1, .int p1)]) hx hb dX9_fits_28 rfl hl (by decide) rfl (fun ls hl => ?_)
      refine lv_iconst (v := 0) hx hb dX9_fits_29 (by decide) ?_
      refine lv_istore_n (lv' := [(3, .int 0), (2, .int z27), (0, .ref (a 0)), (1, .int p1)]) hx hb dX9_fits_30 rfl hl (by decide) rfl (fun ls hl => ?_)
      have L31 := lc3_ind (o := out) (step := (s_X9_fits_31q tr p1)) (fun x28 x29 g30 => ∀ (H : Heap) (locs : List Loc) (ls : Array Slot), va_P E.1 vwCl (wX9 E a g30 tr) H → va_D A (wX9 E a g30 tr) → va_S A s.heap H locs → lv_has ls 6 [(0, .ref (a 0)), (1, .int p1), (2, .int x28), (3, .int x29)] → W p l e rm_X9_fits s m ([.ref (a 0), .int p1] : List Value).toArray below meth c H locs 0 0 (MQ below (va_Qi (fun x (_ : Unit) => x = out.1) (fun _ t => QW E (wX9 E a out.2 tr) t) A) ([.ref (a 0), .int p1] : List Value).toArray s 0 0 A) (F0 m 31 ls [])) (fun x28 x29 g30 k31 ih31 hf H locs ls hP hD hS hl => by
        refine lv_iload_n hx hb dX9_fits_31 rfl (lv_at hl 3 rfl) ?_
        refine lv_bipush (v := 24) hx hb dX9_fits_32 (by decide) ?_
        refine lv_icmp_ge (tgt := 125) hx hb dX9_fits_34 (by decide) (fun c32 => ?_) (fun c32 => ?_)
        · have hf := (if_pos c32).symm.trans hf
          refine lv_iload_n hx hb dX9_fits_125 rfl (lv_at hl 2 rfl) ?_
          have ho := Option.some.inj hf
          have hv : x28 = out.1 := by rw [← ho]
          have hw := congrArg (fun o : Int32 × Sg => (wX9 E a o.2 tr)) ho
          exact r_iret X hr hP hS hv hw dX9_fits_126
        · have hf := (if_neg c32).symm.trans hf
          refine lv_iload_n hx hb dX9_fits_37 rfl (lv_at hl 1 rfl) ?_
          refine lv_if_le (tgt := 125) hx hb dX9_fits_38 (by decide) (fun c33 => ?_) (fun c33 => ?_)
          · have hf := (if_pos c33).symm.trans hf
            refine lv_iload_n hx hb dX9_fits_125 rfl (lv_at hl 2 rfl) ?_
            have ho := Option.some.inj hf
            have hv : x28 = out.1 := by rw [← ho]
            have hw := congrArg (fun o : Int32 × Sg => (wX9 E a o.2 tr)) ho
            exact r_iret X hr hP hS hv hw dX9_fits_126
          · have hf := (if_neg c33).symm.trans hf
            refine lv_aload_n hx hb dX9_fits_41 rfl (lv_at hl 0 rfl) ?_
            refine lv_iconst (v := 0) hx hb dX9_fits_42 (by decide) ?_
            refine lv_iload_n hx hb dX9_fits_43 rfl (lv_at hl 3 rfl) ?_
            obtain ⟨z34, hz34, hf⟩ := obd hf
            refine cV_allI X (As := [.int 0, .int x29]) (rest := []) (c_X9_folds l E a g30 tr 0 x29 hz34) pv_X9_folds ml_X9_136 ⟨rfl, rfl⟩ ⟨(Nat.le_of_ble_eq_true rfl), (Nat.le_of_ble_eq_true rfl)⟩ hP hD hS (wX9_g0_0 _ _ _ _) rfl (wX9_adr _ _ _ _ _ _) rfl hl.1 rfl (Nat.le_of_ble_eq_true rfl) dX9_fits_44 ⟨Nat.le_refl _, Nat.le_refl _⟩ (fun H locs hP hD hS => ?_)
            refine lv_istore (lv' := [(4, .int z34.1), (0, .ref (a 0)), (1, .int p1), (2, .int x28), (3, .int x29)]) hx hb dX9_fits_47 hl (by decide) rfl (fun ls hl => ?_)
            refine lv_iload_n hx hb dX9_fits_49 rfl (lv_at hl 3 rfl) ?_
            refine lv_iload hx hb dX9_fits_50 (lv_at hl 0 rfl) ?_
            have J3 : ∀ (x35 : Int32), j_X9_fits_3 tr p1 x28 x29 k31 z34 x35 = some out → ∀ (H : Heap) (locs : List Loc) (ls : Array Slot), va_P E.1 vwCl (wX9 E a z34.2 tr) H → va_D A (wX9 E a z34.2 tr) → va_S A s.heap H locs → lv_has ls 6 [(0, .ref (a 0)), (1, .int p1), (3, .int x29), (4, .int z34.1)] → W p l e rm_X9_fits s m ([.ref (a 0), .int p1] : List Value).toArray below meth c H locs 0 0 (MQ below (va_Qi (fun x (_ : Unit) => x = out.1) (fun _ t => QW E (wX9 E a out.2 tr) t) A) ([.ref (a 0), .int p1] : List Value).toArray s 0 0 A) (F0 m 69 ls [.int x35, .int x28]) := by
              intro x35 hf H locs ls hP hD hS hl
              refine lv_iadd hx hb dX9_fits_69 ?_
              refine lv_istore_n (lv' := [(2, .int (x28 + x35)), (0, .ref (a 0)), (1, .int p1), (3, .int x29), (4, .int z34.1)]) hx hb dX9_fits_70 rfl hl (by decide) rfl (fun ls hl => ?_)
              refine lv_iconst (v := 0) hx hb dX9_fits_71 (by decide) ?_
              refine lv_istore (lv' := [(5, .int 0), (2, .int (x28 + x35)), (0, .ref (a 0)), (1, .int p1), (3, .int x29), (4, .int z34.1)]) hx hb dX9_fits_72 hl (by decide) rfl (fun ls hl => ?_)
              have L39 := lc3_ind (o := out) (step := (s_X9_fits_74q tr p1 x29 k31 z34)) (fun x36 x37 g38 => ∀ (H : Heap) (locs : List Loc) (ls : Array Slot), va_P E.1 vwCl (wX9 E a g38 tr) H → va_D A (wX9 E a g38 tr) → va_S A s.heap H locs → lv_has ls 6 [(0, .ref (a 0)), (1, .int p1), (2, .int x36), (3, .int x29), (4, .int z34.1), (5, .int x37)] → W p l e rm_X9_fits s m ([.ref (a 0), .int p1] : List Value).toArray below meth c H locs 0 0 (MQ below (va_Qi (fun x (_ : Unit) => x = out.1) (fun _ t => QW E (wX9 E a out.2 tr) t) A) ([.ref (a 0), .int p1] : List Value).toArray s 0 0 A) (F0 m 74 ls [])) (fun x36 x37 g38 k39 ih39 hf H locs ls hP hD hS hl => by
                refine lv_iload hx hb dX9_fits_74 (lv_at hl 5 rfl) ?_
                refine lv_bipush (v := 24) hx hb dX9_fits_76 (by decide) ?_
                refine lv_icmp_ge (tgt := 119) hx hb dX9_fits_78 (by decide) (fun c40 => ?_) (fun c40 => ?_)
                · have hf := (if_pos c40).symm.trans hf
                  refine lv_iinc (v := (x29 + 1)) (lv' := [(3, .int (x29 + 1)), (0, .ref (a 0)), (1, .int p1), (2, .int x36), (4, .int z34.1), (5, .int x37)]) hx hb dX9_fits_119 hl (k := 3) rfl rfl (by decide) rfl (fun ls hl => ?_)
                  refine lv_goto (tgt := 31) hx hb dX9_fits_122 (by decide) ?_
                  exact ih31 x36 (x29 + 1) g38 hf H locs ls hP hD hS (lv_sub hl [1, 2, 3, 0] rfl)
                · have hf := (if_neg c40).symm.trans hf
                  refine lv_iload hx hb dX9_fits_81 (lv_at hl 4 rfl) ?_
                  refine lv_if_eq (tgt := 119) hx hb dX9_fits_83 (by decide) (fun c41 => ?_) (fun c41 => ?_)
                  · have hf := (if_pos c41).symm.trans hf
                    refine lv_iinc (v := (x29 + 1)) (lv' := [(3, .int (x29 + 1)), (0, .ref (a 0)), (1, .int p1), (2, .int x36), (4, .int z34.1), (5, .int x37)]) hx hb dX9_fits_119 hl (k := 3) rfl rfl (by decide) rfl (fun ls hl => ?_)
                    refine lv_goto (tgt := 31) hx hb dX9_fits_122 (by decide) ?_
                    exact ih31 x36 (x29 + 1) g38 hf H locs ls hP hD hS (lv_sub hl [1, 2, 3, 0] rfl)
                  · have hf := (if_neg c41).symm.trans hf
                    refine lv_iload_n hx hb dX9_fits_86 rfl (lv_at hl 1 rfl) ?_
                    refine lv_iconst (v := 2) hx hb dX9_fits_87 (by decide) ?_
                    refine lv_icmp_ne (tgt := 119) hx hb dX9_fits_88 (by decide) (fun c42 => ?_) (fun c42 => ?_)
                    · have hf := (if_neg c42).symm.trans hf
                      refine lv_iinc (v := (x29 + 1)) (lv' := [(3, .int (x29 + 1)), (0, .ref (a 0)), (1, .int p1), (2, .int x36), (4, .int z34.1), (5, .int x37)]) hx hb dX9_fits_119 hl (k := 3) rfl rfl (by decide) rfl (fun ls hl => ?_)
                      refine lv_goto (tgt := 31) hx hb dX9_fits_122 (by decide) ?_
                      exact ih31 x36 (x29 + 1) g38 hf H locs ls hP hD hS (lv_sub hl [1, 2, 3, 0] rfl)
                    · have hf := (if_pos c42).symm.trans hf
                      refine lv_iload_n hx hb dX9_fits_91 rfl (lv_at hl 2 rfl) ?_
                      refine lv_aload_n hx hb dX9_fits_92 rfl (lv_at hl 0 rfl) ?_
                      refine lv_iconst (v := 1) hx hb dX9_fits_93 (by decide) ?_
                      refine lv_iload hx hb dX9_fits_94 (lv_at hl 5 rfl) ?_
                      obtain ⟨z43, hz43, hf⟩ := obd hf
                      refine cV_allI X (As := [.int 1, .int x37]) (rest := [.int x36]) (c_X9_folds l E a g38 tr 1 x37 hz43) pv_X9_folds ml_X9_136 ⟨rfl, rfl⟩ ⟨(Nat.le_of_ble_eq_true rfl), (Nat.le_of_ble_eq_true rfl)⟩ hP hD hS (wX9_g0_0 _ _ _ _) rfl (wX9_adr _ _ _ _ _ _) rfl hl.1 rfl (Nat.le_of_ble_eq_true rfl) dX9_fits_96 ⟨Nat.le_refl _, Nat.le_refl _⟩ (fun H locs hP hD hS => ?_)
                      have J4 : ∀ (x44 : Int32), j_X9_fits_4 x36 x37 k39 z43 x44 = some out → ∀ (H : Heap) (locs : List Loc) (ls : Array Slot), va_P E.1 vwCl (wX9 E a z43.2 tr) H → va_D A (wX9 E a z43.2 tr) → va_S A s.heap H locs → lv_has ls 6 [(0, .ref (a 0)), (1, .int p1), (3, .int x29), (4, .int z34.1), (5, .int x37)] → W p l e rm_X9_fits s m ([.ref (a 0), .int p1] : List Value).toArray below meth c H locs 0 0 (MQ below (va_Qi (fun x (_ : Unit) => x = out.1) (fun _ t => QW E (wX9 E a out.2 tr) t) A) ([.ref (a 0), .int p1] : List Value).toArray s 0 0 A) (F0 m 111 ls [.int x44, .int x36]) := by
                        intro x44 hf H locs ls hP hD hS hl
                        refine lv_iadd hx hb dX9_fits_111 ?_
                        refine lv_istore_n (lv' := [(2, .int (x36 + x44)), (0, .ref (a 0)), (1, .int p1), (3, .int x29), (4, .int z34.1), (5, .int x37)]) hx hb dX9_fits_112 rfl hl (by decide) rfl (fun ls hl => ?_)
                        refine lv_iinc (v := (x37 + 1)) (lv' := [(5, .int (x37 + 1)), (2, .int (x36 + x44)), (0, .ref (a 0)), (1, .int p1), (3, .int x29), (4, .int z34.1)]) hx hb dX9_fits_113 hl (k := 5) rfl rfl (by decide) rfl (fun ls hl => ?_)
                        refine lv_goto (tgt := 74) hx hb dX9_fits_116 (by decide) ?_
                        exact ih39 (x36 + x44) (x37 + 1) z43.2 hf H locs ls hP hD hS (lv_sub hl [2, 3, 1, 4, 5, 0] rfl)
                      refine lv_if_eq (tgt := 110) hx hb dX9_fits_99 (by decide) (fun c45 => ?_) (fun c45 => ?_)
                      · have hf := (if_pos c45).symm.trans hf
                        refine lv_iconst (v := 0) hx hb dX9_fits_110 (by decide) ?_
                        exact J4 0 hf H locs ls hP hD hS (lv_sub hl [0, 1, 3, 4, 5] rfl)
                      · have hf := (if_neg c45).symm.trans hf
                        refine lv_aload_n hx hb dX9_fits_102 rfl (lv_at hl 0 rfl) ?_
                        refine lv_iconst (v := 2) hx hb dX9_fits_103 (by decide) ?_
                        obtain ⟨z46, hz46, hf⟩ := obd hf
                        refine cV_allI X (As := [.int 2]) (rest := [.int x36]) (c_X9_fitsAt l E a z43.2 tr 2 hz46) pv_X9_fitsAt ml_X9_193 ⟨rfl, rfl⟩ ⟨(Nat.le_of_ble_eq_true rfl), (Nat.le_of_ble_eq_true rfl)⟩ hP hD hS (wX9_g0_0 _ _ _ _) rfl (wX9_adr _ _ _ _ _ _) rfl hl.1 rfl (Nat.le_of_ble_eq_true rfl) dX9_fits_104 ⟨Nat.le_refl _, Nat.le_refl _⟩ (fun H locs hP hD hS => ?_)
                        refine lv_goto (tgt := 111) hx hb dX9_fits_107 (by decide) ?_
                        exact J4 z46 hf H locs ls hP hD hS (lv_sub hl [0, 1, 3, 4, 5] rfl))
              exact L39 1000 (x28 + x35) 0 z34.2 hf H locs ls hP hD hS (lv_sub hl [2, 3, 1, 4, 5, 0] rfl)
            refine lv_if_eq (tgt := 68) hx hb dX9_fits_52 (by decide) (fun c47 => ?_) (fun c47 => ?_)
            · have hf := (if_pos c47).symm.trans hf
              refine lv_iconst (v := 0) hx hb dX9_fits_68 (by decide) ?_
              exact J3 0 hf H locs ls hP hD hS (lv_sub hl [1, 2, 4, 0] rfl)
            · have hf := (if_neg c47).symm.trans hf
              refine lv_iload_n hx hb dX9_fits_55 rfl (lv_at hl 2 rfl) ?_
              refine lv_iconst (v := 1) hx hb dX9_fits_56 (by decide) ?_
              refine lv_icmp_ne (tgt := 68) hx hb dX9_fits_57 (by decide) (fun c48 => ?_) (fun c48 => ?_)
              · have hf := (if_neg c48).symm.trans hf
                refine lv_iconst (v := 0) hx hb dX9_fits_68 (by decide) ?_
                exact J3 0 hf H locs ls hP hD hS (lv_sub hl [1, 2, 4, 0] rfl)
              · have hf := (if_pos c48).symm.trans hf
                refine lv_aload_n hx hb dX9_fits_60 rfl (lv_at hl 1 rfl) ?_
                refine lv_iconst (v := 1) hx hb dX9_fits_61 (by decide) ?_
                obtain ⟨z49, hz49, hf⟩ := obd hf
                refine cV_allI X (As := [.int 1]) (rest := [.int x28]) (c_X9_fitsAt l E a z34.2 tr 1 hz49) pv_X9_fitsAt ml_X9_193 ⟨rfl, rfl⟩ ⟨(Nat.le_of_ble_eq_true rfl), (Nat.le_of_ble_eq_true rfl)⟩ hP hD hS (wX9_g0_0 _ _ _ _) rfl (wX9_adr _ _ _ _ _ _) rfl hl.1 rfl (Nat.le_of_ble_eq_true rfl) dX9_fits_62 ⟨Nat.le_refl _, Nat.le_refl _⟩ (fun H locs hP hD hS => ?_)
                refine lv_goto (tgt := 69) hx hb dX9_fits_65 (by decide) ?_
                exact J3 z49 hf H locs ls hP hD hS (lv_sub hl [1, 2, 4, 0] rfl))
      exact L31 1000 z27 0 z3 hf H locs ls hP hD hS (lv_sub hl [2, 3, 1, 0] rfl)
  · have hf := (if_pos c2).symm.trans hf
    refine lv_iconst (v := (-1)) hx hb dX9_fits_9 (by decide) ?_
    have ho := Option.some.inj hf
    have hv : (-1) = out.1 := by rw [← ho]
    have hw := congrArg (fun o : Int32 × Sg => (wX9 E a o.2 tr)) ho
    exact r_iret X hr hP hS hv hw dX9_fits_10
def rm_X9_thick : Room := { frames := 1, cells := 0, slots := 0, locals := 20 }
theorem pv_X9_thick : PkV RX9 yX9_thick cX9_thick 3 (some .int) 0 := ⟨im_X9_thick, se_X9_thick, ini_X9, cd_X9_thick, by decide +kernel⟩
set_option maxHeartbeats 4000000 in
set_option maxRecDepth 100000 in
theorem c_X9_thick (l : Launch) (E : Ev) (a : Nat → Nat) (σ : Sg) (tr : Int64) {out : Int32} (hf : f_X9_thick σ tr = some out) : MtI l yX9_thick (wl yX9_thick cX9_thick 3 (some .int)) rm_X9_thick E [.ref (a 0)] (wX9 E a σ tr) out (wX9 E a σ tr) := by
  refine mt_of (QQ := (fun A => va_Qi (fun x (_ : Unit) => x = out) (fun _ t => QW E (wX9 E a σ tr) t) A)) (by decide) (Nat.le_of_ble_eq_true rfl) (fun p e s m below meth c A ls X hr hP hD hS hl => ?_)
  have hx := X.1.1
  have hb := X.1.2.1
  have hl : lv_has ls 3 [(0, .ref (a 0))] := hl
  obtain ⟨H, hHe⟩ : ∃ H : Heap, H = s.heap := ⟨_, rfl⟩
  obtain ⟨locs, hLe⟩ : ∃ locs : List Loc, locs = [] := ⟨_, rfl⟩
  have hP : va_P E.1 vwCl (wX9 E a σ tr) H := by rw [hHe]; exact hP
  have hS : va_S A s.heap H locs := by rw [hHe, hLe]; exact hS
  rw [← hLe, show W p l e rm_X9_thick s m ([.ref (a 0)] : List Value).toArray below meth c s.heap locs 0 0 = W p l e rm_X9_thick s m ([.ref (a 0)] : List Value).toArray below meth c H locs 0 0 from by rw [hHe]]
  refine lv_iconst (v := 0) hx hb dX9_thick_0 (by decide) ?_
  refine lv_istore_n (lv' := [(1, .int 0), (0, .ref (a 0))]) hx hb dX9_thick_1 rfl hl (by decide) rfl (fun ls hl => ?_)
  refine lv_iconst (v := 0) hx hb dX9_thick_2 (by decide) ?_
  refine lv_istore_n (lv' := [(2, .int 0), (1, .int 0), (0, .ref (a 0))]) hx hb dX9_thick_3 rfl hl (by decide) rfl (fun ls hl => ?_)
  have J1 : ∀ (x1 : Int32), j_X9_thick_1 x1 = some out → ∀ (H : Heap) (locs : List Loc) (ls : Array Slot), va_P E.1 vwCl (wX9 E a σ tr) H → va_D A (wX9 E a σ tr) → va_S A s.heap H locs → lv_has ls 3 [(1, .int x1)] → W p l e rm_X9_thick s m ([.ref (a 0)] : List Value).toArray below meth c H locs 0 0 (MQ below (va_Qi (fun x (_ : Unit) => x = out) (fun _ t => QW E (wX9 E a σ tr) t) A) ([.ref (a 0)] : List Value).toArray s 0 0 A) (F0 m 45 ls []) := by
    intro x1 hf H locs ls hP hD hS hl
    refine lv_iload_n hx hb dX9_thick_45 rfl (lv_at hl 0 rfl) ?_
    refine lv_iconst (v := 1) hx hb dX9_thick_46 (by decide) ?_
    refine lv_iadd hx hb dX9_thick_47 ?_
    have ho := Option.some.inj hf
    exact r_iret X hr hP hS ho rfl dX9_thick_48
  have L5 := lc2_ind (o := out) (step := (s_X9_thick_4 σ tr j_X9_thick_1)) (fun x2 x3 => ∀ (H : Heap) (locs : List Loc) (ls : Array Slot), va_P E.1 vwCl (wX9 E a σ tr) H → va_D A (wX9 E a σ tr) → va_S A s.heap H locs → lv_has ls 3 [(0, .ref (a 0)), (1, .int x2), (2, .int x3)] → W p l e rm_X9_thick s m ([.ref (a 0)] : List Value).toArray below meth c H locs 0 0 (MQ below (va_Qi (fun x (_ : Unit) => x = out) (fun _ t => QW E (wX9 E a σ tr) t) A) ([.ref (a 0)] : List Value).toArray s 0 0 A) (F0 m 4 ls [])) (fun x2 x3 k4 ih5 hf H locs ls hP hD hS hl => by
    refine lv_iload_n hx hb dX9_thick_4 rfl (lv_at hl 2 rfl) ?_
    refine lv_aload_n hx hb dX9_thick_5 rfl (lv_at hl 0 rfl) ?_
    obtain ⟨z6, hz6, hf⟩ := obd hf
    refine cV_allI X (As := []) (rest := [.int x3]) (c_X9_cells l E a σ tr hz6) pv_X9_cells ml_X9_51 ⟨rfl, rfl⟩ ⟨(Nat.le_of_ble_eq_true rfl), (Nat.le_of_ble_eq_true rfl)⟩ hP hD hS (wX9_g0_0 _ _ _ _) rfl (wX9_adr _ _ _ _ _ _) rfl hl.1 rfl (Nat.le_of_ble_eq_true rfl) dX9_thick_6 ⟨Nat.le_refl _, Nat.le_refl _⟩ (fun H locs hP hD hS => ?_)
    refine lv_icmp_ge (tgt := 45) hx hb dX9_thick_9 (by decide) (fun c7 => ?_) (fun c7 => ?_)
    · have hf := (if_pos c7).symm.trans hf
      exact J1 x2 hf H locs ls hP hD hS (lv_sub hl [1] rfl)
    · have hf := (if_neg c7).symm.trans hf
      refine lv_aload_n hx hb dX9_thick_12 rfl (lv_at hl 0 rfl) ?_
      refine r_get X hP 0 (wX9_g0_0 _ _ _ _) rfl inc_X9 15 (by decide) fl_X9_35 rfl dX9_thick_13 ?_
      refine lv_bipush (v := 32) hx hb dX9_thick_16 (by decide) ?_
      refine lv_iload_n hx hb dX9_thick_18 rfl (lv_at hl 2 rfl) ?_
      refine lv_iadd hx hb dX9_thick_19 ?_
      obtain ⟨h8, hf⟩ := chk_in hf
      refine r_iald X hP 9 (wX9_g0_9 _ _ _ _) h8 dX9_thick_20 ?_
      refine lv_iload_n hx hb dX9_thick_21 rfl (lv_at hl 1 rfl) ?_
      refine lv_icmp_le (tgt := 37) hx hb dX9_thick_22 (by decide) (fun c9 => ?_) (fun c9 => ?_)
      · have hf := (if_pos c9).symm.trans hf
        refine lv_iload_n hx hb dX9_thick_37 rfl (lv_at hl 1 rfl) ?_
        refine lv_istore_n (lv' := [(1, .int x2), (0, .ref (a 0)), (2, .int x3)]) hx hb dX9_thick_38 rfl hl (by decide) rfl (fun ls hl => ?_)
        refine lv_iinc (v := (x3 + 1)) (lv' := [(2, .int (x3 + 1)), (1, .int x2), (0, .ref (a 0))]) hx hb dX9_thick_39 hl (k := 2) rfl rfl (by decide) rfl (fun ls hl => ?_)
        refine lv_goto (tgt := 4) hx hb dX9_thick_42 (by decide) ?_
        exact ih5 x2 (x3 + 1) hf H locs ls hP hD hS (lv_sub hl [2, 1, 0] rfl)
      · have hf := (if_neg c9).symm.trans hf
        refine lv_aload_n hx hb dX9_thick_25 rfl (lv_at hl 0 rfl) ?_
        refine r_get X hP 0 (wX9_g0_0 _ _ _ _) rfl inc_X9 15 (by decide) fl_X9_35 rfl dX9_thick_26 ?_
        refine lv_bipush (v := 32) hx hb dX9_thick_29 (by decide) ?_
        refine lv_iload_n hx hb dX9_thick_31 rfl (lv_at hl 2 rfl) ?_
        refine lv_iadd hx hb dX9_thick_32 ?_
        obtain ⟨h10, hf⟩ := chk_in hf
        refine r_iald X hP 9 (wX9_g0_9 _ _ _ _) h10 dX9_thick_33 ?_
        refine lv_goto (tgt := 38) hx hb dX9_thick_34 (by decide) ?_
        refine lv_istore_n (lv' := [(1, .int (σ 9 ((32 + x3) : Int32).toNatClampNeg)), (0, .ref (a 0)), (2, .int x3)]) hx hb dX9_thick_38 rfl hl (by decide) rfl (fun ls hl => ?_)
        refine lv_iinc (v := (x3 + 1)) (lv' := [(2, .int (x3 + 1)), (1, .int (σ 9 ((32 + x3) : Int32).toNatClampNeg)), (0, .ref (a 0))]) hx hb dX9_thick_39 hl (k := 2) rfl rfl (by decide) rfl (fun ls hl => ?_)
        refine lv_goto (tgt := 4) hx hb dX9_thick_42 (by decide) ?_
        exact ih5 (σ 9 ((32 + x3) : Int32).toNatClampNeg) (x3 + 1) hf H locs ls hP hD hS (lv_sub hl [2, 1, 0] rfl))
  exact L5 1000 0 0 hf H locs ls hP hD hS (lv_sub hl [2, 1, 0] rfl)
def rm_X9_fold : Room := { frames := 4, cells := 0, slots := 0, locals := 103 }
theorem pv_X9_fold : PkV RX9 yX9_fold cX9_fold 6 (some .int) 4 := ⟨im_X9_fold, se_X9_fold, ini_X9, cd_X9_fold, by decide +kernel⟩
set_option maxHeartbeats 4000000 in
set_option maxRecDepth 100000 in
theorem c_X9_fold (l : Launch) (E : Ev) (a : Nat → Nat) (σ : Sg) (tr : Int64) (p1 : Int32) (p2 : Int32) (p3 : Int32) (p4 : Int32) {out : Int32 × Sg} (hf : f_X9_fold σ tr p1 p2 p3 p4 = some out) : MtI l yX9_fold (wl yX9_fold cX9_fold 6 (some .int)) rm_X9_fold E [.ref (a 0), .int p1, .int p2, .int p3, .int p4] (wX9 E a σ tr) out.1 (wX9 E a out.2 tr) := by
  refine mt_of (QQ := (fun A => va_Qi (fun x (_ : Unit) => x = out.1) (fun _ t => QW E (wX9 E a out.2 tr) t) A)) (by decide) (Nat.le_of_ble_eq_true rfl) (fun p e s m below meth c A ls X hr hP hD hS hl => ?_)
  have hx := X.1.1
  have hb := X.1.2.1
  have hl : lv_has ls 6 [(0, .ref (a 0)), (1, .int p1), (2, .int p2), (3, .int p3), (4, .int p4)] := hl
  obtain ⟨H, hHe⟩ : ∃ H : Heap, H = s.heap := ⟨_, rfl⟩
  obtain ⟨locs, hLe⟩ : ∃ locs : List Loc, locs = [] := ⟨_, rfl⟩
  have hP : va_P E.1 vwCl (wX9 E a σ tr) H := by rw [hHe]; exact hP
  have hS : va_S A s.heap H locs := by rw [hHe, hLe]; exact hS
  rw [← hLe, show W p l e rm_X9_fold s m ([.ref (a 0), .int p1, .int p2, .int p3, .int p4] : List Value).toArray below meth c s.heap locs 0 0 = W p l e rm_X9_fold s m ([.ref (a 0), .int p1, .int p2, .int p3, .int p4] : List Value).toArray below meth c H locs 0 0 from by rw [hHe]]
  refine lv_iload_n hx hb dX9_fold_0 rfl (lv_at hl 1 rfl) ?_
  refine lv_iconst (v := 0) hx hb dX9_fold_1 (by decide) ?_
  refine lv_iconst (v := 1) hx hb dX9_fold_2 (by decide) ?_
  obtain ⟨z1, hz1, hf⟩ := obd hf
  refine cS_roI X (As := [.int p1, .int 0, .int 1]) (rest := []) (c_X9_in l E p1 0 1 hz1) ps_X9_in ml_X9_55 ⟨rfl, rfl⟩ ⟨(Nat.le_of_ble_eq_true rfl), (Nat.le_of_ble_eq_true rfl)⟩ hP hD hS (is := []) (wc := []) rfl rfl rfl hl.1 rfl (Nat.le_of_ble_eq_true rfl) dX9_fold_3 ⟨Nat.le_refl _, Nat.le_refl _⟩ (fun H locs hP hS => ?_)
  refine lv_if_eq (tgt := 37) hx hb dX9_fold_6 (by decide) (fun c2 => ?_) (fun c2 => ?_)
  · have hf := (if_pos c2).symm.trans hf
    refine lv_iconst (v := (-1)) hx hb dX9_fold_37 (by decide) ?_
    have ho := Option.some.inj hf
    have hv : (-1) = out.1 := by rw [← ho]
    have hw := congrArg (fun o : Int32 × Sg => (wX9 E a o.2 tr)) ho
    exact r_iret X hr hP hS hv hw dX9_fold_38
  · have hf := (if_neg c2).symm.trans hf
    refine lv_iload_n hx hb dX9_fold_9 rfl (lv_at hl 2 rfl) ?_
    refine lv_iconst (v := 1) hx hb dX9_fold_10 (by decide) ?_
    refine lv_iconst (v := 3) hx hb dX9_fold_11 (by decide) ?_
    obtain ⟨z3, hz3, hf⟩ := obd hf
    refine cS_roI X (As := [.int p2, .int 1, .int 3]) (rest := []) (c_X9_in l E p2 1 3 hz3) ps_X9_in ml_X9_55 ⟨rfl, rfl⟩ ⟨(Nat.le_of_ble_eq_true rfl), (Nat.le_of_ble_eq_true rfl)⟩ hP hD hS (is := []) (wc := []) rfl rfl rfl hl.1 rfl (Nat.le_of_ble_eq_true rfl) dX9_fold_12 ⟨Nat.le_refl _, Nat.le_refl _⟩ (fun H locs hP hS => ?_)
    refine lv_if_eq (tgt := 37) hx hb dX9_fold_15 (by decide) (fun c4 => ?_) (fun c4 => ?_)
    · have hf := (if_pos c4).symm.trans hf
      refine lv_iconst (v := (-1)) hx hb dX9_fold_37 (by decide) ?_
      have ho := Option.some.inj hf
      have hv : (-1) = out.1 := by rw [← ho]
      have hw := congrArg (fun o : Int32 × Sg => (wX9 E a o.2 tr)) ho
      exact r_iret X hr hP hS hv hw dX9_fold_38
    · have hf := (if_neg c4).symm.trans hf
      refine lv_iload_n hx hb dX9_fold_18 rfl (lv_at hl 3 rfl) ?_
      refine lv_iconst (v := 0) hx hb dX9_fold_19 (by decide) ?_
      refine lv_iconst (v := 1) hx hb dX9_fold_20 (by decide) ?_
      obtain ⟨z5, hz5, hf⟩ := obd hf
      refine cS_roI X (As := [.int p3, .int 0, .int 1]) (rest := []) (c_X9_in l E p3 0 1 hz5) ps_X9_in ml_X9_55 ⟨rfl, rfl⟩ ⟨(Nat.le_of_ble_eq_true rfl), (Nat.le_of_ble_eq_true rfl)⟩ hP hD hS (is := []) (wc := []) rfl rfl rfl hl.1 rfl (Nat.le_of_ble_eq_true rfl) dX9_fold_21 ⟨Nat.le_refl _, Nat.le_refl _⟩ (fun H locs hP hS => ?_)
      refine lv_if_eq (tgt := 37) hx hb dX9_fold_24 (by decide) (fun c6 => ?_) (fun c6 => ?_)
      · have hf := (if_pos c6).symm.trans hf
        refine lv_iconst (v := (-1)) hx hb dX9_fold_37 (by decide) ?_
        have ho := Option.some.inj hf
        have hv : (-1) = out.1 := by rw [← ho]
        have hw := congrArg (fun o : Int32 × Sg => (wX9 E a o.2 tr)) ho
        exact r_iret X hr hP hS hv hw dX9_fold_38
      · have hf := (if_neg c6).symm.trans hf
        refine lv_iload hx hb dX9_fold_27 (lv_at hl 4 rfl) ?_
        refine lv_iconst (v := 0) hx hb dX9_fold_29 (by decide) ?_
        refine lv_iconst (v := 1) hx hb dX9_fold_30 (by decide) ?_
        obtain ⟨z7, hz7, hf⟩ := obd hf
        refine cS_roI X (As := [.int p4, .int 0, .int 1]) (rest := []) (c_X9_in l E p4 0 1 hz7) ps_X9_in ml_X9_55 ⟨rfl, rfl⟩ ⟨(Nat.le_of_ble_eq_true rfl), (Nat.le_of_ble_eq_true rfl)⟩ hP hD hS (is := []) (wc := []) rfl rfl rfl hl.1 rfl (Nat.le_of_ble_eq_true rfl) dX9_fold_31 ⟨Nat.le_refl _, Nat.le_refl _⟩ (fun H locs hP hS => ?_)
        refine lv_if_ne (tgt := 39) hx hb dX9_fold_34 (by decide) (fun c8 => ?_) (fun c8 => ?_)
        · have hf := (if_neg c8).symm.trans hf
          refine lv_iload_n hx hb dX9_fold_39 rfl (lv_at hl 1 rfl) ?_
          refine lv_iconst (v := 2) hx hb dX9_fold_40 (by decide) ?_
          refine lv_iload_n hx hb dX9_fold_41 rfl (lv_at hl 3 rfl) ?_
          refine lv_imul hx hb dX9_fold_42 ?_
          refine lv_iadd hx hb dX9_fold_43 ?_
          refine lv_iconst (v := 4) hx hb dX9_fold_44 (by decide) ?_
          refine lv_iload hx hb dX9_fold_45 (lv_at hl 4 rfl) ?_
          refine lv_imul hx hb dX9_fold_47 ?_
          refine lv_iadd hx hb dX9_fold_48 ?_
          refine lv_bipush (v := 8) hx hb dX9_fold_49 (by decide) ?_
          refine lv_iload_n hx hb dX9_fold_51 rfl (lv_at hl 2 rfl) ?_
          refine lv_iconst (v := 1) hx hb dX9_fold_52 (by decide) ?_
          refine lv_isub hx hb dX9_fold_53 ?_
          refine lv_imul hx hb dX9_fold_54 ?_
          refine lv_iadd hx hb dX9_fold_55 ?_
          refine lv_istore (lv' := [(5, .int (((p1 + (2 * p3)) + (4 * p4)) + (8 * (p2 - 1)))), (0, .ref (a 0)), (1, .int p1), (2, .int p2), (3, .int p3), (4, .int p4)]) hx hb dX9_fold_56 hl (by decide) rfl (fun ls hl => ?_)
          refine lv_aload_n hx hb dX9_fold_58 rfl (lv_at hl 1 rfl) ?_
          refine lv_aload_n hx hb dX9_fold_59 rfl (lv_at hl 1 rfl) ?_
          refine r_get X hP 0 (wX9_g0_0 _ _ _ _) rfl inc_X9 5 (by decide) fl_X9_19 rfl dX9_fold_60 ?_
          refine lv_iconst (v := 1) hx hb dX9_fold_63 (by decide) ?_
          obtain ⟨h9, hf⟩ := chk_in hf
          refine r_iald X hP 4 (wX9_g0_4 _ _ _ _) h9 dX9_fold_64 ?_
          obtain ⟨z10, hz10, hf⟩ := obd hf
          refine cV_allV X (As := [.int (σ 4 (1 : Int32).toNatClampNeg)]) (rest := []) (c_X9_now l E a σ tr (σ 4 (1 : Int32).toNatClampNeg) hz10) pv_X9_now ml_X9_148 ⟨rfl, rfl⟩ ⟨(Nat.le_of_ble_eq_true rfl), (Nat.le_of_ble_eq_true rfl)⟩ hP hD hS (wX9_g0_0 _ _ _ _) rfl (wX9_adr _ _ _ _ _ _) rfl hl.1 rfl (Nat.le_of_ble_eq_true rfl) dX9_fold_65 ⟨Nat.le_refl _, Nat.le_refl _⟩ (fun H locs hP hD hS => ?_)
          refine lv_iload_n hx hb dX9_fold_68 rfl (lv_at hl 3 rfl) ?_
          refine lv_aload_n hx hb dX9_fold_69 rfl (lv_at hl 1 rfl) ?_
          refine r_get X hP 0 (wX9_g0_0 _ _ _ _) rfl inc_X9 16 (by decide) fl_X9_38 rfl dX9_fold_70 ?_
          refine lv_iload_n hx hb dX9_fold_73 rfl (lv_at hl 2 rfl) ?_
          obtain ⟨h11, hf⟩ := chk_in hf
          refine r_iald X hP 10 (wX9_g0_10 _ _ _ _) h11 dX9_fold_74 ?_
          refine lv_icmp_lt (tgt := 81) hx hb dX9_fold_75 (by decide) (fun c12 => ?_) (fun c12 => ?_)
          · have hf := (if_pos c12).symm.trans hf
            refine lv_aload_n hx hb dX9_fold_81 rfl (lv_at hl 1 rfl) ?_
            refine lv_iload hx hb dX9_fold_82 (lv_at hl 0 rfl) ?_
            refine lv_iconst (v := 1) hx hb dX9_fold_84 (by decide) ?_
            obtain ⟨z13, hz13, hf⟩ := obd hf
            refine cV_allI X (As := [.int (((p1 + (2 * p3)) + (4 * p4)) + (8 * (p2 - 1))), .int 1]) (rest := []) (c_X9_bendsAll l E a z10 tr (((p1 + (2 * p3)) + (4 * p4)) + (8 * (p2 - 1))) 1 hz13) pv_X9_bendsAll ml_X9_161 ⟨rfl, rfl⟩ ⟨(Nat.le_of_ble_eq_true rfl), (Nat.le_of_ble_eq_true rfl)⟩ hP hD hS (wX9_g0_0 _ _ _ _) rfl (wX9_adr _ _ _ _ _ _) rfl hl.1 rfl (Nat.le_of_ble_eq_true rfl) dX9_fold_85 ⟨Nat.le_refl _, Nat.le_refl _⟩ (fun H locs hP hD hS => ?_)
            refine lv_aload_n hx hb dX9_fold_88 rfl (lv_at hl 1 rfl) ?_
            refine r_get X hP 0 (wX9_g0_0 _ _ _ _) rfl inc_X9 3 (by decide) fl_X9_13 rfl dX9_fold_89 ?_
            refine lv_iconst (v := 2) hx hb dX9_fold_92 (by decide) ?_
            obtain ⟨h14, hf⟩ := chk_in hf
            refine r_iald X hP 2 (wX9_g0_2 _ _ _ _) h14 dX9_fold_93 ?_
            refine lv_icmp_le (tgt := 108) hx hb dX9_fold_94 (by decide) (fun c15 => ?_) (fun c15 => ?_)
            · have hf := (if_pos c15).symm.trans hf
              refine lv_aload_n hx hb dX9_fold_108 rfl (lv_at hl 1 rfl) ?_
              refine r_get X hP 0 (wX9_g0_0 _ _ _ _) rfl inc_X9 5 (by decide) fl_X9_19 rfl dX9_fold_109 ?_
              refine lv_iconst (v := 2) hx hb dX9_fold_112 (by decide) ?_
              refine lv_aload_n hx hb dX9_fold_113 rfl (lv_at hl 1 rfl) ?_
              refine r_get X hP 0 (wX9_g0_0 _ _ _ _) rfl inc_X9 5 (by decide) fl_X9_19 rfl dX9_fold_114 ?_
              refine lv_iconst (v := 1) hx hb dX9_fold_117 (by decide) ?_
              obtain ⟨h16, hf⟩ := chk_in hf
              refine r_iald X hP 4 (wX9_g0_4 _ _ _ _) h16 dX9_fold_118 ?_
              refine lv_iadd hx hb dX9_fold_119 ?_
              refine lv_iload hx hb dX9_fold_120 (lv_at hl 0 rfl) ?_
              obtain ⟨h17, hf⟩ := chk_in hf
              refine r_iast X hP hD hS 4 (wX9_g0_4 _ _ _ _) h17 (wX9_t0_4 _ _ _ _ _ _) dX9_fold_122 (fun H locs hP hD hS => ?_)
              refine lv_aload_n hx hb dX9_fold_123 rfl (lv_at hl 1 rfl) ?_
              refine r_get X hP 0 (wX9_g0_0 _ _ _ _) rfl inc_X9 5 (by decide) fl_X9_19 rfl dX9_fold_124 ?_
              refine lv_iconst (v := 1) hx hb dX9_fold_127 (by decide) ?_
              refine lv_dup2_11 hx hb dX9_fold_128 rfl rfl ?_
              obtain ⟨h18, hf⟩ := chk_in hf
              refine r_iald X hP 4 (wX9_g0_4 _ _ _ _) h18 dX9_fold_129 ?_
              refine lv_iconst (v := 1) hx hb dX9_fold_130 (by decide) ?_
              refine lv_iadd hx hb dX9_fold_131 ?_
              obtain ⟨h19, hf⟩ := chk_in hf
              refine r_iast X hP hD hS 4 (wX9_g0_4 _ _ _ _) h19 (wX9_t0_4 _ _ _ _ _ _) dX9_fold_132 (fun H locs hP hD hS => ?_)
              refine lv_aload_n hx hb dX9_fold_133 rfl (lv_at hl 1 rfl) ?_
              refine lv_aload_n hx hb dX9_fold_134 rfl (lv_at hl 1 rfl) ?_
              refine r_get X hP 0 (wX9_g0_0 _ _ _ _) rfl inc_X9 5 (by decide) fl_X9_19 rfl dX9_fold_135 ?_
              refine lv_iconst (v := 1) hx hb dX9_fold_138 (by decide) ?_
              obtain ⟨h20, hf⟩ := chk_in hf
              refine r_iald X hP 4 (wX9_g0_4 _ _ _ _) h20 dX9_fold_139 ?_
              obtain ⟨z21, hz21, hf⟩ := obd hf
              refine cV_allV X (As := [.int ((sg_st (sg_st z13.2 4 ((2 + (z13.2 4 (1 : Int32).toNatClampNeg)) : Int32).toNatClampNeg (((p1 + (2 * p3)) + (4 * p4)) + (8 * (p2 - 1)))) 4 (1 : Int32).toNatClampNeg (((sg_st z13.2 4 ((2 + (z13.2 4 (1 : Int32).toNatClampNeg)) : Int32).toNatClampNeg (((p1 + (2 * p3)) + (4 * p4)) + (8 * (p2 - 1)))) 4 (1 : Int32).toNatClampNeg) + 1)) 4 (1 : Int32).toNatClampNeg)]) (rest := []) (c_X9_now l E a (sg_st (sg_st z13.2 4 ((2 + (z13.2 4 (1 : Int32).toNatClampNeg)) : Int32).toNatClampNeg (((p1 + (2 * p3)) + (4 * p4)) + (8 * (p2 - 1)))) 4 (1 : Int32).toNatClampNeg (((sg_st z13.2 4 ((2 + (z13.2 4 (1 : Int32).toNatClampNeg)) : Int32).toNatClampNeg (((p1 + (2 * p3)) + (4 * p4)) + (8 * (p2 - 1)))) 4 (1 : Int32).toNatClampNeg) + 1)) tr ((sg_st (sg_st z13.2 4 ((2 + (z13.2 4 (1 : Int32).toNatClampNeg)) : Int32).toNatClampNeg (((p1 + (2 * p3)) + (4 * p4)) + (8 * (p2 - 1)))) 4 (1 : Int32).toNatClampNeg (((sg_st z13.2 4 ((2 + (z13.2 4 (1 : Int32).toNatClampNeg)) : Int32).toNatClampNeg (((p1 + (2 * p3)) + (4 * p4)) + (8 * (p2 - 1)))) 4 (1 : Int32).toNatClampNeg) + 1)) 4 (1 : Int32).toNatClampNeg) hz21) pv_X9_now ml_X9_148 ⟨rfl, rfl⟩ ⟨(Nat.le_of_ble_eq_true rfl), (Nat.le_of_ble_eq_true rfl)⟩ hP hD hS (wX9_g0_0 _ _ _ _) rfl (wX9_adr _ _ _ _ _ _) rfl hl.1 rfl (Nat.le_of_ble_eq_true rfl) dX9_fold_140 ⟨Nat.le_refl _, Nat.le_refl _⟩ (fun H locs hP hD hS => ?_)
              refine lv_aload_n hx hb dX9_fold_143 rfl (lv_at hl 1 rfl) ?_
              obtain ⟨z22, hz22, hf⟩ := obd hf
              refine cV_allI X (As := []) (rest := []) (c_X9_thick l E a z21 tr hz22) pv_X9_thick ml_X9_164 ⟨rfl, rfl⟩ ⟨(Nat.le_of_ble_eq_true rfl), (Nat.le_of_ble_eq_true rfl)⟩ hP hD hS (wX9_g0_0 _ _ _ _) rfl (wX9_adr _ _ _ _ _ _) rfl hl.1 rfl (Nat.le_of_ble_eq_true rfl) dX9_fold_144 ⟨Nat.le_refl _, Nat.le_refl _⟩ (fun H locs hP hD hS => ?_)
              have ho := Option.some.inj hf
              have hv : z22 = out.1 := by rw [← ho]
              have hw := congrArg (fun o : Int32 × Sg => (wX9 E a o.2 tr)) ho
              exact r_iret X hr hP hS hv hw dX9_fold_147
            · have hf := (if_neg c15).symm.trans hf
              refine lv_aload_n hx hb dX9_fold_97 rfl (lv_at hl 1 rfl) ?_
              refine lv_iload hx hb dX9_fold_98 (lv_at hl 0 rfl) ?_
              refine lv_iconst (v := (-1)) hx hb dX9_fold_100 (by decide) ?_
              obtain ⟨z23, hz23, hf⟩ := obd hf
              refine cV_allI X (As := [.int (((p1 + (2 * p3)) + (4 * p4)) + (8 * (p2 - 1))), .int (-1)]) (rest := []) (c_X9_bendsAll l E a z13.2 tr (((p1 + (2 * p3)) + (4 * p4)) + (8 * (p2 - 1))) (-1) hz23) pv_X9_bendsAll ml_X9_161 ⟨rfl, rfl⟩ ⟨(Nat.le_of_ble_eq_true rfl), (Nat.le_of_ble_eq_true rfl)⟩ hP hD hS (wX9_g0_0 _ _ _ _) rfl (wX9_adr _ _ _ _ _ _) rfl hl.1 rfl (Nat.le_of_ble_eq_true rfl) dX9_fold_101 ⟨Nat.le_refl _, Nat.le_refl _⟩ (fun H locs hP hD hS => ?_)
              refine lv_pop hx hb dX9_fold_104 rfl ?_
              refine lv_bipush (v := (-2)) hx hb dX9_fold_105 (by decide) ?_
              have ho := Option.some.inj hf
              have hv : (-2) = out.1 := by rw [← ho]
              have hw := congrArg (fun o : Int32 × Sg => (wX9 E a o.2 tr)) ho
              exact r_iret X hr hP hS hv hw dX9_fold_107
          · have hf := (if_neg c12).symm.trans hf
            refine lv_bipush (v := (-2)) hx hb dX9_fold_78 (by decide) ?_
            have ho := Option.some.inj hf
            have hv : (-2) = out.1 := by rw [← ho]
            have hw := congrArg (fun o : Int32 × Sg => (wX9 E a o.2 tr)) ho
            exact r_iret X hr hP hS hv hw dX9_fold_80
        · have hf := (if_pos c8).symm.trans hf
          refine lv_iconst (v := (-1)) hx hb dX9_fold_37 (by decide) ?_
          have ho := Option.some.inj hf
          have hv : (-1) = out.1 := by rw [← ho]
          have hw := congrArg (fun o : Int32 × Sg => (wX9 E a o.2 tr)) ho
          exact r_iret X hr hP hS hv hw dX9_fold_38
def rm_X9_forget : Room := { frames := 0, cells := 0, slots := 0, locals := 0 }
theorem pv_X9_forget : PkV RX9 yX9_forget cX9_forget 2 (some .int) 0 := ⟨im_X9_forget, se_X9_forget, ini_X9, cd_X9_forget, by decide +kernel⟩
set_option maxHeartbeats 4000000 in
set_option maxRecDepth 100000 in
theorem c_X9_forget (l : Launch) (E : Ev) (a : Nat → Nat) (σ : Sg) (tr : Int64) {out : Int32 × Sg} (hf : f_X9_forget σ tr = some out) : MtI l yX9_forget (wl yX9_forget cX9_forget 2 (some .int)) rm_X9_forget E [.ref (a 0)] (wX9 E a σ tr) out.1 (wX9 E a out.2 tr) := by
  refine mt_of (QQ := (fun A => va_Qi (fun x (_ : Unit) => x = out.1) (fun _ t => QW E (wX9 E a out.2 tr) t) A)) (by decide) (Nat.le_of_ble_eq_true rfl) (fun p e s m below meth c A ls X hr hP hD hS hl => ?_)
  have hx := X.1.1
  have hb := X.1.2.1
  have hl : lv_has ls 2 [(0, .ref (a 0))] := hl
  obtain ⟨H, hHe⟩ : ∃ H : Heap, H = s.heap := ⟨_, rfl⟩
  obtain ⟨locs, hLe⟩ : ∃ locs : List Loc, locs = [] := ⟨_, rfl⟩
  have hP : va_P E.1 vwCl (wX9 E a σ tr) H := by rw [hHe]; exact hP
  have hS : va_S A s.heap H locs := by rw [hHe, hLe]; exact hS
  rw [← hLe, show W p l e rm_X9_forget s m ([.ref (a 0)] : List Value).toArray below meth c s.heap locs 0 0 = W p l e rm_X9_forget s m ([.ref (a 0)] : List Value).toArray below meth c H locs 0 0 from by rw [hHe]]
  refine lv_aload_n hx hb dX9_forget_0 rfl (lv_at hl 0 rfl) ?_
  refine r_get X hP 0 (wX9_g0_0 _ _ _ _) rfl inc_X9 10 (by decide) fl_X9_126 rfl dX9_forget_1 ?_
  refine lv_istore_n (lv' := [(1, .int (σ 0 10)), (0, .ref (a 0))]) hx hb dX9_forget_4 rfl hl (by decide) rfl (fun ls hl => ?_)
  refine lv_aload_n hx hb dX9_forget_5 rfl (lv_at hl 1 rfl) ?_
  refine lv_iconst (v := 0) hx hb dX9_forget_6 (by decide) ?_
  refine r_put X hP hD hS 0 (wX9_g0_0 _ _ _ _) rfl inc_X9 tyX9 tyX9_ok nmX9 10 (by decide) fl_X9_126 rfl (ty := .int) rfl rfl rfl (Nat.le_of_ble_eq_true rfl) (wX9_s0_0_10 _ _ _ _ _) dX9_forget_7 (fun H locs hP hD hS => ?_)
  refine lv_iload_n hx hb dX9_forget_10 rfl (lv_at hl 0 rfl) ?_
  have ho := Option.some.inj hf
  have hv : (σ 0 10) = out.1 := by rw [← ho]
  have hw := congrArg (fun o : Int32 × Sg => (wX9 E a o.2 tr)) ho
  exact r_iret X hr hP hS hv hw dX9_forget_11
def rm_X9_keep : Room := { frames := 1, cells := 0, slots := 0, locals := 22 }
theorem pv_X9_keep : PkV RX9 yX9_keep cX9_keep 3 (some .int) 1 := ⟨im_X9_keep, se_X9_keep, ini_X9, cd_X9_keep, by decide +kernel⟩
set_option maxHeartbeats 4000000 in
set_option maxRecDepth 100000 in
theorem c_X9_keep (l : Launch) (E : Ev) (a : Nat → Nat) (σ : Sg) (tr : Int64) (p1 : Int32) {out : Int32 × Sg} (hf : f_X9_keep σ tr p1 = some out) : MtI l yX9_keep (wl yX9_keep cX9_keep 3 (some .int)) rm_X9_keep E [.ref (a 0), .int p1] (wX9 E a σ tr) out.1 (wX9 E a out.2 tr) := by
  refine mt_of (QQ := (fun A => va_Qi (fun x (_ : Unit) => x = out.1) (fun _ t => QW E (wX9 E a out.2 tr) t) A)) (by decide) (Nat.le_of_ble_eq_true rfl) (fun p e s m below meth c A ls X hr hP hD hS hl => ?_)
  have hx := X.1.1
  have hb := X.1.2.1
  have hl : lv_has ls 3 [(0, .ref (a 0)), (1, .int p1)] := hl
  obtain ⟨H, hHe⟩ : ∃ H : Heap, H = s.heap := ⟨_, rfl⟩
  obtain ⟨locs, hLe⟩ : ∃ locs : List Loc, locs = [] := ⟨_, rfl⟩
  have hP : va_P E.1 vwCl (wX9 E a σ tr) H := by rw [hHe]; exact hP
  have hS : va_S A s.heap H locs := by rw [hHe, hLe]; exact hS
  rw [← hLe, show W p l e rm_X9_keep s m ([.ref (a 0), .int p1] : List Value).toArray below meth c s.heap locs 0 0 = W p l e rm_X9_keep s m ([.ref (a 0), .int p1] : List Value).toArray below meth c H locs 0 0 from by rw [hHe]]
  refine lv_iload_n hx hb dX9_keep_0 rfl (lv_at hl 1 rfl) ?_
  refine lv_iconst (v := 0) hx hb dX9_keep_1 (by decide) ?_
  refine lv_iconst (v := 1) hx hb dX9_keep_2 (by decide) ?_
  obtain ⟨z1, hz1, hf⟩ := obd hf
  refine cS_roI X (As := [.int p1, .int 0, .int 1]) (rest := []) (c_X9_in l E p1 0 1 hz1) ps_X9_in ml_X9_55 ⟨rfl, rfl⟩ ⟨(Nat.le_of_ble_eq_true rfl), (Nat.le_of_ble_eq_true rfl)⟩ hP hD hS (is := []) (wc := []) rfl rfl rfl hl.1 rfl (Nat.le_of_ble_eq_true rfl) dX9_keep_3 ⟨Nat.le_refl _, Nat.le_refl _⟩ (fun H locs hP hS => ?_)
  refine lv_if_ne (tgt := 11) hx hb dX9_keep_6 (by decide) (fun c2 => ?_) (fun c2 => ?_)
  · have hf := (if_neg c2).symm.trans hf
    refine lv_iconst (v := 0) hx hb dX9_keep_11 (by decide) ?_
    refine lv_istore_n (lv' := [(2, .int 0), (0, .ref (a 0)), (1, .int p1)]) hx hb dX9_keep_12 rfl hl (by decide) rfl (fun ls hl => ?_)
    have J1 : ∀ (g3 : Sg), j_X9_keep_1 p1 g3 = some out → ∀ (H : Heap) (locs : List Loc) (ls : Array Slot), va_P E.1 vwCl (wX9 E a g3 tr) H → va_D A (wX9 E a g3 tr) → va_S A s.heap H locs → lv_has ls 3 [(0, .ref (a 0)), (1, .int p1)] → W p l e rm_X9_keep s m ([.ref (a 0), .int p1] : List Value).toArray below meth c H locs 0 0 (MQ below (va_Qi (fun x (_ : Unit) => x = out.1) (fun _ t => QW E (wX9 E a out.2 tr) t) A) ([.ref (a 0), .int p1] : List Value).toArray s 0 0 A) (F0 m 42 ls []) := by
      intro g3 hf H locs ls hP hD hS hl
      refine lv_aload_n hx hb dX9_keep_42 rfl (lv_at hl 0 rfl) ?_
      refine r_get X hP 0 (wX9_g0_0 _ _ _ _) rfl inc_X9 7 (by decide) fl_X9_25 rfl dX9_keep_43 ?_
      refine lv_iload_n hx hb dX9_keep_46 rfl (lv_at hl 1 rfl) ?_
      refine lv_iconst (v := 1) hx hb dX9_keep_47 (by decide) ?_
      obtain ⟨h4, hf⟩ := chk_in hf
      refine r_zast X hP hD hS 6 (wX9_g0_6 _ _ _ _) h4 (wX9_t0_6 _ _ _ _ _ _) dX9_keep_48 (fun H locs hP hD hS => ?_)
      refine lv_aload_n hx hb dX9_keep_49 rfl (lv_at hl 0 rfl) ?_
      refine r_get X hP 0 (wX9_g0_0 _ _ _ _) rfl inc_X9 5 (by decide) fl_X9_19 rfl dX9_keep_50 ?_
      refine lv_iconst (v := 0) hx hb dX9_keep_53 (by decide) ?_
      obtain ⟨h5, hf⟩ := chk_in hf
      refine r_iald X hP 4 (wX9_g0_4 _ _ _ _) h5 dX9_keep_54 ?_
      have ho := Option.some.inj hf
      have hv : ((sg_st g3 6 (p1 : Int32).toNatClampNeg (vp_nar .boolean 1)) 4 (0 : Int32).toNatClampNeg) = out.1 := by rw [← ho]
      have hw := congrArg (fun o : Int32 × Sg => (wX9 E a o.2 tr)) ho
      exact r_iret X hr hP hS hv hw dX9_keep_55
    have L9 := lc2_ind (o := out) (step := (s_X9_keep_13 p1 (j_X9_keep_1 p1))) (fun x6 g7 => ∀ (H : Heap) (locs : List Loc) (ls : Array Slot), va_P E.1 vwCl (wX9 E a g7 tr) H → va_D A (wX9 E a g7 tr) → va_S A s.heap H locs → lv_has ls 3 [(0, .ref (a 0)), (1, .int p1), (2, .int x6)] → W p l e rm_X9_keep s m ([.ref (a 0), .int p1] : List Value).toArray below meth c H locs 0 0 (MQ below (va_Qi (fun x (_ : Unit) => x = out.1) (fun _ t => QW E (wX9 E a out.2 tr) t) A) ([.ref (a 0), .int p1] : List Value).toArray s 0 0 A) (F0 m 13 ls [])) (fun x6 g7 k8 ih9 hf H locs ls hP hD hS hl => by
      refine lv_iload_n hx hb dX9_keep_13 rfl (lv_at hl 2 rfl) ?_
      refine lv_bipush (v := 40) hx hb dX9_keep_14 (by decide) ?_
      refine lv_icmp_ge (tgt := 42) hx hb dX9_keep_16 (by decide) (fun c10 => ?_) (fun c10 => ?_)
      · have hf := (if_pos c10).symm.trans hf
        exact J1 g7 hf H locs ls hP hD hS (lv_sub hl [0, 1] rfl)
      · have hf := (if_neg c10).symm.trans hf
        refine lv_aload_n hx hb dX9_keep_19 rfl (lv_at hl 0 rfl) ?_
        refine r_get X hP 0 (wX9_g0_0 _ _ _ _) rfl inc_X9 6 (by decide) fl_X9_22 rfl dX9_keep_20 ?_
        refine lv_bipush (v := 40) hx hb dX9_keep_23 (by decide) ?_
        refine lv_iload_n hx hb dX9_keep_25 rfl (lv_at hl 1 rfl) ?_
        refine lv_imul hx hb dX9_keep_26 ?_
        refine lv_iload_n hx hb dX9_keep_27 rfl (lv_at hl 2 rfl) ?_
        refine lv_iadd hx hb dX9_keep_28 ?_
        refine lv_aload_n hx hb dX9_keep_29 rfl (lv_at hl 0 rfl) ?_
        refine r_get X hP 0 (wX9_g0_0 _ _ _ _) rfl inc_X9 5 (by decide) fl_X9_19 rfl dX9_keep_30 ?_
        refine lv_iload_n hx hb dX9_keep_33 rfl (lv_at hl 2 rfl) ?_
        obtain ⟨h11, hf⟩ := chk_in hf
        refine r_iald X hP 4 (wX9_g0_4 _ _ _ _) h11 dX9_keep_34 ?_
        obtain ⟨h12, hf⟩ := chk_in hf
        refine r_iast X hP hD hS 5 (wX9_g0_5 _ _ _ _) h12 (wX9_t0_5 _ _ _ _ _ _) dX9_keep_35 (fun H locs hP hD hS => ?_)
        refine lv_iinc (v := (x6 + 1)) (lv' := [(2, .int (x6 + 1)), (0, .ref (a 0)), (1, .int p1)]) hx hb dX9_keep_36 hl (k := 2) rfl rfl (by decide) rfl (fun ls hl => ?_)
        refine lv_goto (tgt := 13) hx hb dX9_keep_39 (by decide) ?_
        exact ih9 (x6 + 1) (sg_st g7 5 (((40 * p1) + x6) : Int32).toNatClampNeg (g7 4 (x6 : Int32).toNatClampNeg)) hf H locs ls hP hD hS (lv_sub hl [1, 2, 0] rfl))
    exact L9 1000 0 σ hf H locs ls hP hD hS (lv_sub hl [1, 2, 0] rfl)
  · have hf := (if_pos c2).symm.trans hf
    refine lv_iconst (v := (-1)) hx hb dX9_keep_9 (by decide) ?_
    have ho := Option.some.inj hf
    have hv : (-1) = out.1 := by rw [← ho]
    have hw := congrArg (fun o : Int32 × Sg => (wX9 E a o.2 tr)) ho
    exact r_iret X hr hP hS hv hw dX9_keep_10
def rm_X9_sortOf : Room := { frames := 1, cells := 0, slots := 0, locals := 22 }
theorem ps_X9_sortOf : PkS yX9_sortOf cX9_sortOf 1 (some .int) 1 := ⟨sm_X9_sortOf, ini_X9, cd_X9_sortOf, by decide +kernel⟩
set_option maxHeartbeats 4000000 in
set_option maxRecDepth 100000 in
theorem c_X9_sortOf (l : Launch) (E : Ev) (p1 : Int32) {out : Int32} (hf : f_X9_sortOf p1 = some out) : MtI l yX9_sortOf (wl yX9_sortOf cX9_sortOf 1 (some .int)) rm_X9_sortOf E [.int p1] ([] : va_W) out ([] : va_W) := by
  refine mt_of (QQ := (fun A => va_Qi (fun x (_ : Unit) => x = out) (fun _ t => QW E ([] : va_W) t) A)) (by decide) (Nat.le_of_ble_eq_true rfl) (fun p e s m below meth c A ls X hr hP hD hS hl => ?_)
  have hx := X.1.1
  have hb := X.1.2.1
  have hl : lv_has ls 1 [(0, .int p1)] := hl
  obtain ⟨H, hHe⟩ : ∃ H : Heap, H = s.heap := ⟨_, rfl⟩
  obtain ⟨locs, hLe⟩ : ∃ locs : List Loc, locs = [] := ⟨_, rfl⟩
  have hP : va_P E.1 vwCl ([] : va_W) H := by rw [hHe]; exact hP
  have hS : va_S A s.heap H locs := by rw [hHe, hLe]; exact hS
  rw [← hLe, show W p l e rm_X9_sortOf s m ([.int p1] : List Value).toArray below meth c s.heap locs 0 0 = W p l e rm_X9_sortOf s m ([.int p1] : List Value).toArray below meth c H locs 0 0 from by rw [hHe]]
  refine lv_iload_n hx hb dX9_sortOf_0 rfl (lv_at hl 0 rfl) ?_
  refine lv_if_ge (tgt := 8) hx hb dX9_sortOf_1 (by decide) (fun c1 => ?_) (fun c1 => ?_)
  · have hf := (if_pos c1).symm.trans hf
    refine lv_iload_n hx hb dX9_sortOf_8 rfl (lv_at hl 0 rfl) ?_
    refine lv_bipush (v := 97) hx hb dX9_sortOf_9 (by decide) ?_
    refine lv_bipush (v := 122) hx hb dX9_sortOf_11 (by decide) ?_
    obtain ⟨z2, hz2, hf⟩ := obd hf
    refine cS_roI X (As := [.int p1, .int 97, .int 122]) (rest := []) (c_X9_in l E p1 97 122 hz2) ps_X9_in ml_X9_55 ⟨rfl, rfl⟩ ⟨(Nat.le_of_ble_eq_true rfl), (Nat.le_of_ble_eq_true rfl)⟩ hP hD hS (is := []) (wc := []) rfl rfl rfl hl.1 rfl (Nat.le_of_ble_eq_true rfl) dX9_sortOf_13 ⟨Nat.le_refl _, Nat.le_refl _⟩ (fun H locs hP hS => ?_)
    refine lv_if_eq (tgt := 23) hx hb dX9_sortOf_16 (by decide) (fun c3 => ?_) (fun c3 => ?_)
    · have hf := (if_pos c3).symm.trans hf
      refine lv_iload_n hx hb dX9_sortOf_23 rfl (lv_at hl 0 rfl) ?_
      refine lv_bipush (v := 48) hx hb dX9_sortOf_24 (by decide) ?_
      refine lv_bipush (v := 57) hx hb dX9_sortOf_26 (by decide) ?_
      obtain ⟨z4, hz4, hf⟩ := obd hf
      refine cS_roI X (As := [.int p1, .int 48, .int 57]) (rest := []) (c_X9_in l E p1 48 57 hz4) ps_X9_in ml_X9_55 ⟨rfl, rfl⟩ ⟨(Nat.le_of_ble_eq_true rfl), (Nat.le_of_ble_eq_true rfl)⟩ hP hD hS (is := []) (wc := []) rfl rfl rfl hl.1 rfl (Nat.le_of_ble_eq_true rfl) dX9_sortOf_28 ⟨Nat.le_refl _, Nat.le_refl _⟩ (fun H locs hP hS => ?_)
      refine lv_if_eq (tgt := 38) hx hb dX9_sortOf_31 (by decide) (fun c5 => ?_) (fun c5 => ?_)
      · have hf := (if_pos c5).symm.trans hf
        refine lv_iload_n hx hb dX9_sortOf_38 rfl (lv_at hl 0 rfl) ?_
        refine lv_bipush (v := 59) hx hb dX9_sortOf_39 (by decide) ?_
        refine lv_icmp_ne (tgt := 48) hx hb dX9_sortOf_41 (by decide) (fun c6 => ?_) (fun c6 => ?_)
        · have hf := (if_neg c6).symm.trans hf
          refine lv_iconst (v := 4) hx hb dX9_sortOf_48 (by decide) ?_
          have ho := Option.some.inj hf
          exact r_iret X hr hP hS ho rfl dX9_sortOf_49
        · have hf := (if_pos c6).symm.trans hf
          refine lv_iconst (v := 3) hx hb dX9_sortOf_44 (by decide) ?_
          refine lv_goto (tgt := 49) hx hb dX9_sortOf_45 (by decide) ?_
          have ho := Option.some.inj hf
          exact r_iret X hr hP hS ho rfl dX9_sortOf_49
      · have hf := (if_neg c5).symm.trans hf
        refine lv_iconst (v := 2) hx hb dX9_sortOf_34 (by decide) ?_
        refine lv_goto (tgt := 49) hx hb dX9_sortOf_35 (by decide) ?_
        have ho := Option.some.inj hf
        exact r_iret X hr hP hS ho rfl dX9_sortOf_49
    · have hf := (if_neg c3).symm.trans hf
      refine lv_iconst (v := 1) hx hb dX9_sortOf_19 (by decide) ?_
      refine lv_goto (tgt := 49) hx hb dX9_sortOf_20 (by decide) ?_
      have ho := Option.some.inj hf
      exact r_iret X hr hP hS ho rfl dX9_sortOf_49
  · have hf := (if_neg c1).symm.trans hf
    refine lv_iconst (v := 0) hx hb dX9_sortOf_4 (by decide) ?_
    refine lv_goto (tgt := 49) hx hb dX9_sortOf_5 (by decide) ?_
    have ho := Option.some.inj hf
    exact r_iret X hr hP hS ho rfl dX9_sortOf_49
def rm_X9_token : Room := { frames := 2, cells := 0, slots := 0, locals := 42 }
theorem pv_X9_token : PkV RX9 yX9_token cX9_token 1 none 0 := ⟨im_X9_token, se_X9_token, ini_X9, cd_X9_token, by decide +kernel⟩
set_option maxHeartbeats 4000000 in
set_option maxRecDepth 100000 in
theorem c_X9_token (l : Launch) (E : Ev) (a : Nat → Nat) (σ : Sg) (tr : Int64) {out : Sg} (hf : f_X9_token σ tr = some out) : MtV l yX9_token (wl yX9_token cX9_token 1 none) rm_X9_token E [.ref (a 0)] (wX9 E a σ tr) (wX9 E a out tr) := by
  refine mt_of (QQ := (fun A => va_Qv (fun _ : Unit => True) (fun _ t => QW E (wX9 E a out tr) t) A)) (by decide) (Nat.le_of_ble_eq_true rfl) (fun p e s m below meth c A ls X hr hP hD hS hl => ?_)
  have hx := X.1.1
  have hb := X.1.2.1
  have hl : lv_has ls 1 [(0, .ref (a 0))] := hl
  obtain ⟨H, hHe⟩ : ∃ H : Heap, H = s.heap := ⟨_, rfl⟩
  obtain ⟨locs, hLe⟩ : ∃ locs : List Loc, locs = [] := ⟨_, rfl⟩
  have hP : va_P E.1 vwCl (wX9 E a σ tr) H := by rw [hHe]; exact hP
  have hS : va_S A s.heap H locs := by rw [hHe, hLe]; exact hS
  rw [← hLe, show W p l e rm_X9_token s m ([.ref (a 0)] : List Value).toArray below meth c s.heap locs 0 0 = W p l e rm_X9_token s m ([.ref (a 0)] : List Value).toArray below meth c H locs 0 0 from by rw [hHe]]
  have J1 : ∀ (g1 : Sg), j_X9_token_1 tr g1 = some out → ∀ (H : Heap) (locs : List Loc) (ls : Array Slot), va_P E.1 vwCl (wX9 E a g1 tr) H → va_D A (wX9 E a g1 tr) → va_S A s.heap H locs → lv_has ls 1 [(0, .ref (a 0))] → W p l e rm_X9_token s m ([.ref (a 0)] : List Value).toArray below meth c H locs 0 0 (MQ below (va_Qv (fun _ : Unit => True) (fun _ t => QW E (wX9 E a out tr) t) A) ([.ref (a 0)] : List Value).toArray s 0 0 A) (F0 m 26 ls []) := by
    intro g1 hf H locs ls hP hD hS hl
    refine lv_aload_n hx hb dX9_token_26 rfl (lv_at hl 0 rfl) ?_
    refine lv_aload_n hx hb dX9_token_27 rfl (lv_at hl 0 rfl) ?_
    refine r_get X hP 0 (wX9_g0_0 _ _ _ _) rfl inc_X9 11 (by decide) fl_X9_69 rfl dX9_token_28 ?_
    refine r_put X hP hD hS 0 (wX9_g0_0 _ _ _ _) rfl inc_X9 tyX9 tyX9_ok nmX9 13 (by decide) fl_X9_76 rfl (ty := .int) rfl rfl rfl (Nat.le_of_ble_eq_true rfl) (wX9_s0_0_13 _ _ _ _ _) dX9_token_31 (fun H locs hP hD hS => ?_)
    refine lv_aload_n hx hb dX9_token_34 rfl (lv_at hl 0 rfl) ?_
    refine lv_aload_n hx hb dX9_token_35 rfl (lv_at hl 0 rfl) ?_
    refine lv_aload_n hx hb dX9_token_36 rfl (lv_at hl 0 rfl) ?_
    refine r_get X hP 0 (wX9_g0_0 _ _ _ _) rfl inc_X9 11 (by decide) fl_X9_69 rfl dX9_token_37 ?_
    obtain ⟨z2, hz2, hf⟩ := obd hf
    refine cV_allI X (As := [.int ((sg_st g1 0 13 (g1 0 11)) 0 11)]) (rest := [.ref (a 0)]) (c_X9_byteAt l E a (sg_st g1 0 13 (g1 0 11)) tr ((sg_st g1 0 13 (g1 0 11)) 0 11) hz2) pv_X9_byteAt ml_X9_72 ⟨rfl, rfl⟩ ⟨(Nat.le_of_ble_eq_true rfl), (Nat.le_of_ble_eq_true rfl)⟩ hP hD hS (wX9_g0_0 _ _ _ _) rfl (wX9_adr _ _ _ _ _ _) rfl hl.1 rfl (Nat.le_of_ble_eq_true rfl) dX9_token_40 ⟨Nat.le_refl _, Nat.le_refl _⟩ (fun H locs hP hD hS => ?_)
    obtain ⟨z3, hz3, hf⟩ := obd hf
    refine cS_roI X (As := [.int z2]) (rest := [.ref (a 0)]) (c_X9_sortOf l E z2 hz3) ps_X9_sortOf ml_X9_79 ⟨rfl, rfl⟩ ⟨(Nat.le_of_ble_eq_true rfl), (Nat.le_of_ble_eq_true rfl)⟩ hP hD hS (is := []) (wc := []) rfl rfl rfl hl.1 rfl (Nat.le_of_ble_eq_true rfl) dX9_token_43 ⟨Nat.le_refl _, Nat.le_refl _⟩ (fun H locs hP hS => ?_)
    refine r_put X hP hD hS 0 (wX9_g0_0 _ _ _ _) rfl inc_X9 tyX9 tyX9_ok nmX9 12 (by decide) fl_X9_82 rfl (ty := .int) rfl rfl rfl (Nat.le_of_ble_eq_true rfl) (wX9_s0_0_12 _ _ _ _ _) dX9_token_46 (fun H locs hP hD hS => ?_)
    refine lv_aload_n hx hb dX9_token_49 rfl (lv_at hl 0 rfl) ?_
    refine lv_iconst (v := 0) hx hb dX9_token_50 (by decide) ?_
    refine r_put X hP hD hS 0 (wX9_g0_0 _ _ _ _) rfl inc_X9 tyX9 tyX9_ok nmX9 14 (by decide) fl_X9_85 rfl (ty := .int) rfl rfl rfl (Nat.le_of_ble_eq_true rfl) (wX9_s0_0_14 _ _ _ _ _) dX9_token_51 (fun H locs hP hD hS => ?_)
    have L5 := lc1_ind (o := out) (step := (s_X9_token_54 tr)) (fun g4 => ∀ (H : Heap) (locs : List Loc) (ls : Array Slot), va_P E.1 vwCl (wX9 E a g4 tr) H → va_D A (wX9 E a g4 tr) → va_S A s.heap H locs → lv_has ls 1 [(0, .ref (a 0))] → W p l e rm_X9_token s m ([.ref (a 0)] : List Value).toArray below meth c H locs 0 0 (MQ below (va_Qv (fun _ : Unit => True) (fun _ t => QW E (wX9 E a out tr) t) A) ([.ref (a 0)] : List Value).toArray s 0 0 A) (F0 m 54 ls [])) (fun g4 k5 ih5 hf H locs ls hP hD hS hl => by
      refine lv_aload_n hx hb dX9_token_54 rfl (lv_at hl 0 rfl) ?_
      refine r_get X hP 0 (wX9_g0_0 _ _ _ _) rfl inc_X9 14 (by decide) fl_X9_85 rfl dX9_token_55 ?_
      have J2 : j_X9_token_2 g4 k5 = some out → ∀ (H : Heap) (locs : List Loc) (ls : Array Slot), va_P E.1 vwCl (wX9 E a g4 tr) H → va_D A (wX9 E a g4 tr) → va_S A s.heap H locs → lv_has ls 1 [(0, .ref (a 0))] → W p l e rm_X9_token s m ([.ref (a 0)] : List Value).toArray below meth c H locs 0 0 (MQ below (va_Qv (fun _ : Unit => True) (fun _ t => QW E (wX9 E a out tr) t) A) ([.ref (a 0)] : List Value).toArray s 0 0 A) (F0 m 102 ls []) := by
        intro hf H locs ls hP hD hS hl
        refine lv_aload_n hx hb dX9_token_102 rfl (lv_at hl 0 rfl) ?_
        refine lv_dup hx hb dX9_token_103 rfl ?_
        refine r_get X hP 0 (wX9_g0_0 _ _ _ _) rfl inc_X9 11 (by decide) fl_X9_69 rfl dX9_token_104 ?_
        refine lv_iconst (v := 1) hx hb dX9_token_107 (by decide) ?_
        refine lv_iadd hx hb dX9_token_108 ?_
        refine r_put X hP hD hS 0 (wX9_g0_0 _ _ _ _) rfl inc_X9 tyX9 tyX9_ok nmX9 11 (by decide) fl_X9_69 rfl (ty := .int) rfl rfl rfl (Nat.le_of_ble_eq_true rfl) (wX9_s0_0_11 _ _ _ _ _) dX9_token_109 (fun H locs hP hD hS => ?_)
        refine lv_aload_n hx hb dX9_token_112 rfl (lv_at hl 0 rfl) ?_
        refine lv_dup hx hb dX9_token_113 rfl ?_
        refine r_get X hP 0 (wX9_g0_0 _ _ _ _) rfl inc_X9 14 (by decide) fl_X9_85 rfl dX9_token_114 ?_
        refine lv_iconst (v := 1) hx hb dX9_token_117 (by decide) ?_
        refine lv_iadd hx hb dX9_token_118 ?_
        refine r_put X hP hD hS 0 (wX9_g0_0 _ _ _ _) rfl inc_X9 tyX9 tyX9_ok nmX9 14 (by decide) fl_X9_85 rfl (ty := .int) rfl rfl rfl (Nat.le_of_ble_eq_true rfl) (wX9_s0_0_14 _ _ _ _ _) dX9_token_119 (fun H locs hP hD hS => ?_)
        refine lv_goto (tgt := 54) hx hb dX9_token_122 (by decide) ?_
        exact ih5 (sg_st (sg_st g4 0 11 ((g4 0 11) + 1)) 0 14 (((sg_st g4 0 11 ((g4 0 11) + 1)) 0 14) + 1)) hf H locs ls hP hD hS (lv_sub hl [0] rfl)
      have J3 : j_X9_token_3 tr g4 k5 = some out → ∀ (H : Heap) (locs : List Loc) (ls : Array Slot), va_P E.1 vwCl (wX9 E a g4 tr) H → va_D A (wX9 E a g4 tr) → va_S A s.heap H locs → lv_has ls 1 [(0, .ref (a 0))] → W p l e rm_X9_token s m ([.ref (a 0)] : List Value).toArray below meth c H locs 0 0 (MQ below (va_Qv (fun _ : Unit => True) (fun _ t => QW E (wX9 E a out tr) t) A) ([.ref (a 0)] : List Value).toArray s 0 0 A) (F0 m 68 ls []) := by
        intro hf H locs ls hP hD hS hl
        refine lv_aload_n hx hb dX9_token_68 rfl (lv_at hl 0 rfl) ?_
        refine r_get X hP 0 (wX9_g0_0 _ _ _ _) rfl inc_X9 12 (by decide) fl_X9_82 rfl dX9_token_69 ?_
        refine lv_iconst (v := 1) hx hb dX9_token_72 (by decide) ?_
        have J4 : j_X9_token_4 tr g4 k5 = some out → ∀ (H : Heap) (locs : List Loc) (ls : Array Slot), va_P E.1 vwCl (wX9 E a g4 tr) H → va_D A (wX9 E a g4 tr) → va_S A s.heap H locs → lv_has ls 1 [(0, .ref (a 0))] → W p l e rm_X9_token s m ([.ref (a 0)] : List Value).toArray below meth c H locs 0 0 (MQ below (va_Qv (fun _ : Unit => True) (fun _ t => QW E (wX9 E a out tr) t) A) ([.ref (a 0)] : List Value).toArray s 0 0 A) (F0 m 84 ls []) := by
          intro hf H locs ls hP hD hS hl
          refine lv_aload_n hx hb dX9_token_84 rfl (lv_at hl 0 rfl) ?_
          refine lv_aload_n hx hb dX9_token_85 rfl (lv_at hl 0 rfl) ?_
          refine r_get X hP 0 (wX9_g0_0 _ _ _ _) rfl inc_X9 11 (by decide) fl_X9_69 rfl dX9_token_86 ?_
          obtain ⟨z6, hz6, hf⟩ := obd hf
          refine cV_allI X (As := [.int (g4 0 11)]) (rest := []) (c_X9_byteAt l E a g4 tr (g4 0 11) hz6) pv_X9_byteAt ml_X9_72 ⟨rfl, rfl⟩ ⟨(Nat.le_of_ble_eq_true rfl), (Nat.le_of_ble_eq_true rfl)⟩ hP hD hS (wX9_g0_0 _ _ _ _) rfl (wX9_adr _ _ _ _ _ _) rfl hl.1 rfl (Nat.le_of_ble_eq_true rfl) dX9_token_89 ⟨Nat.le_refl _, Nat.le_refl _⟩ (fun H locs hP hD hS => ?_)
          obtain ⟨z7, hz7, hf⟩ := obd hf
          refine cS_roI X (As := [.int z6]) (rest := []) (c_X9_sortOf l E z6 hz7) ps_X9_sortOf ml_X9_79 ⟨rfl, rfl⟩ ⟨(Nat.le_of_ble_eq_true rfl), (Nat.le_of_ble_eq_true rfl)⟩ hP hD hS (is := []) (wc := []) rfl rfl rfl hl.1 rfl (Nat.le_of_ble_eq_true rfl) dX9_token_92 ⟨Nat.le_refl _, Nat.le_refl _⟩ (fun H locs hP hS => ?_)
          refine lv_aload_n hx hb dX9_token_95 rfl (lv_at hl 0 rfl) ?_
          refine r_get X hP 0 (wX9_g0_0 _ _ _ _) rfl inc_X9 12 (by decide) fl_X9_82 rfl dX9_token_96 ?_
          refine lv_icmp_ne (tgt := 125) hx hb dX9_token_99 (by decide) (fun c8 => ?_) (fun c8 => ?_)
          · have hf := (if_neg c8).symm.trans hf
            have ho := Option.some.inj hf
            have hw := congrArg (fun o : Sg => (wX9 E a o tr)) ho
            exact r_vret X hr hP hS hw dX9_token_125
          · have hf := (if_pos c8).symm.trans hf
            exact J2 hf H locs ls hP hD hS (lv_sub hl [0] rfl)
        refine lv_icmp_eq (tgt := 84) hx hb dX9_token_73 (by decide) (fun c9 => ?_) (fun c9 => ?_)
        · have hf := (if_pos c9).symm.trans hf
          exact J4 hf H locs ls hP hD hS (lv_sub hl [0] rfl)
        · have hf := (if_neg c9).symm.trans hf
          refine lv_aload_n hx hb dX9_token_76 rfl (lv_at hl 0 rfl) ?_
          refine r_get X hP 0 (wX9_g0_0 _ _ _ _) rfl inc_X9 12 (by decide) fl_X9_82 rfl dX9_token_77 ?_
          refine lv_iconst (v := 2) hx hb dX9_token_80 (by decide) ?_
          refine lv_icmp_ne (tgt := 125) hx hb dX9_token_81 (by decide) (fun c10 => ?_) (fun c10 => ?_)
          · have hf := (if_neg c10).symm.trans hf
            have ho := Option.some.inj hf
            have hw := congrArg (fun o : Sg => (wX9 E a o tr)) ho
            exact r_vret X hr hP hS hw dX9_token_125
          · have hf := (if_pos c10).symm.trans hf
            exact J4 hf H locs ls hP hD hS (lv_sub hl [0] rfl)
      refine lv_if_ne (tgt := 68) hx hb dX9_token_58 (by decide) (fun c11 => ?_) (fun c11 => ?_)
      · have hf := (if_neg c11).symm.trans hf
        exact J3 hf H locs ls hP hD hS (lv_sub hl [0] rfl)
      · have hf := (if_pos c11).symm.trans hf
        refine lv_aload_n hx hb dX9_token_61 rfl (lv_at hl 0 rfl) ?_
        refine r_get X hP 0 (wX9_g0_0 _ _ _ _) rfl inc_X9 12 (by decide) fl_X9_82 rfl dX9_token_62 ?_
        refine lv_if_ne (tgt := 102) hx hb dX9_token_65 (by decide) (fun c12 => ?_) (fun c12 => ?_)
        · have hf := (if_neg c12).symm.trans hf
          exact J2 hf H locs ls hP hD hS (lv_sub hl [0] rfl)
        · have hf := (if_pos c12).symm.trans hf
          exact J3 hf H locs ls hP hD hS (lv_sub hl [0] rfl))
    exact L5 1000 (sg_st (sg_st (sg_st g1 0 13 (g1 0 11)) 0 12 z3) 0 14 0) hf H locs ls hP hD hS (lv_sub hl [0] rfl)
  have L15 := lc1_ind (o := out) (step := (s_X9_token_0 tr (j_X9_token_1 tr))) (fun g13 => ∀ (H : Heap) (locs : List Loc) (ls : Array Slot), va_P E.1 vwCl (wX9 E a g13 tr) H → va_D A (wX9 E a g13 tr) → va_S A s.heap H locs → lv_has ls 1 [(0, .ref (a 0))] → W p l e rm_X9_token s m ([.ref (a 0)] : List Value).toArray below meth c H locs 0 0 (MQ below (va_Qv (fun _ : Unit => True) (fun _ t => QW E (wX9 E a out tr) t) A) ([.ref (a 0)] : List Value).toArray s 0 0 A) (F0 m 0 ls [])) (fun g13 k14 ih15 hf H locs ls hP hD hS hl => by
    refine lv_aload_n hx hb dX9_token_0 rfl (lv_at hl 0 rfl) ?_
    refine lv_aload_n hx hb dX9_token_1 rfl (lv_at hl 0 rfl) ?_
    refine r_get X hP 0 (wX9_g0_0 _ _ _ _) rfl inc_X9 11 (by decide) fl_X9_69 rfl dX9_token_2 ?_
    obtain ⟨z16, hz16, hf⟩ := obd hf
    refine cV_allI X (As := [.int (g13 0 11)]) (rest := []) (c_X9_byteAt l E a g13 tr (g13 0 11) hz16) pv_X9_byteAt ml_X9_72 ⟨rfl, rfl⟩ ⟨(Nat.le_of_ble_eq_true rfl), (Nat.le_of_ble_eq_true rfl)⟩ hP hD hS (wX9_g0_0 _ _ _ _) rfl (wX9_adr _ _ _ _ _ _) rfl hl.1 rfl (Nat.le_of_ble_eq_true rfl) dX9_token_5 ⟨Nat.le_refl _, Nat.le_refl _⟩ (fun H locs hP hD hS => ?_)
    refine lv_bipush (v := 32) hx hb dX9_token_8 (by decide) ?_
    refine lv_icmp_ne (tgt := 26) hx hb dX9_token_10 (by decide) (fun c17 => ?_) (fun c17 => ?_)
    · have hf := (if_neg c17).symm.trans hf
      exact J1 g13 hf H locs ls hP hD hS (lv_sub hl [0] rfl)
    · have hf := (if_pos c17).symm.trans hf
      refine lv_aload_n hx hb dX9_token_13 rfl (lv_at hl 0 rfl) ?_
      refine lv_dup hx hb dX9_token_14 rfl ?_
      refine r_get X hP 0 (wX9_g0_0 _ _ _ _) rfl inc_X9 11 (by decide) fl_X9_69 rfl dX9_token_15 ?_
      refine lv_iconst (v := 1) hx hb dX9_token_18 (by decide) ?_
      refine lv_iadd hx hb dX9_token_19 ?_
      refine r_put X hP hD hS 0 (wX9_g0_0 _ _ _ _) rfl inc_X9 tyX9 tyX9_ok nmX9 11 (by decide) fl_X9_69 rfl (ty := .int) rfl rfl rfl (Nat.le_of_ble_eq_true rfl) (wX9_s0_0_11 _ _ _ _ _) dX9_token_20 (fun H locs hP hD hS => ?_)
      refine lv_goto (tgt := 0) hx hb dX9_token_23 (by decide) ?_
      exact ih15 (sg_st g13 0 11 ((g13 0 11) + 1)) hf H locs ls hP hD hS (lv_sub hl [0] rfl))
  exact L15 1000 σ hf H locs ls hP hD hS (lv_sub hl [0] rfl)
def rm_X9_number : Room := { frames := 3, cells := 0, slots := 0, locals := 62 }
theorem pv_X9_number : PkV RX9 yX9_number cX9_number 5 (some .int) 2 := ⟨im_X9_number, se_X9_number, ini_X9, cd_X9_number, by decide +kernel⟩
set_option maxHeartbeats 4000000 in
set_option maxRecDepth 100000 in
theorem c_X9_number (l : Launch) (E : Ev) (a : Nat → Nat) (σ : Sg) (tr : Int64) (p1 : Int32) (p2 : Int32) {out : Int32 × Sg} (hf : f_X9_number σ tr p1 p2 = some out) : MtI l yX9_number (wl yX9_number cX9_number 5 (some .int)) rm_X9_number E [.ref (a 0), .int p1, .int p2] (wX9 E a σ tr) out.1 (wX9 E a out.2 tr) := by
  refine mt_of (QQ := (fun A => va_Qi (fun x (_ : Unit) => x = out.1) (fun _ t => QW E (wX9 E a out.2 tr) t) A)) (by decide) (Nat.le_of_ble_eq_true rfl) (fun p e s m below meth c A ls X hr hP hD hS hl => ?_)
  have hx := X.1.1
  have hb := X.1.2.1
  have hl : lv_has ls 5 [(0, .ref (a 0)), (1, .int p1), (2, .int p2)] := hl
  obtain ⟨H, hHe⟩ : ∃ H : Heap, H = s.heap := ⟨_, rfl⟩
  obtain ⟨locs, hLe⟩ : ∃ locs : List Loc, locs = [] := ⟨_, rfl⟩
  have hP : va_P E.1 vwCl (wX9 E a σ tr) H := by rw [hHe]; exact hP
  have hS : va_S A s.heap H locs := by rw [hHe, hLe]; exact hS
  rw [← hLe, show W p l e rm_X9_number s m ([.ref (a 0), .int p1, .int p2] : List Value).toArray below meth c s.heap locs 0 0 = W p l e rm_X9_number s m ([.ref (a 0), .int p1, .int p2] : List Value).toArray below meth c H locs 0 0 from by rw [hHe]]
  refine lv_aload_n hx hb dX9_number_0 rfl (lv_at hl 0 rfl) ?_
  obtain ⟨z1, hz1, hf⟩ := obd hf
  refine cV_allV X (As := []) (rest := []) (c_X9_token l E a σ tr hz1) pv_X9_token ml_X9_98 ⟨rfl, rfl⟩ ⟨(Nat.le_of_ble_eq_true rfl), (Nat.le_of_ble_eq_true rfl)⟩ hP hD hS (wX9_g0_0 _ _ _ _) rfl (wX9_adr _ _ _ _ _ _) rfl hl.1 rfl (Nat.le_of_ble_eq_true rfl) dX9_number_1 ⟨Nat.le_refl _, Nat.le_refl _⟩ (fun H locs hP hD hS => ?_)
  refine lv_aload_n hx hb dX9_number_4 rfl (lv_at hl 0 rfl) ?_
  refine lv_aload_n hx hb dX9_number_5 rfl (lv_at hl 0 rfl) ?_
  refine r_get X hP 0 (wX9_g0_0 _ _ _ _) rfl inc_X9 13 (by decide) fl_X9_76 rfl dX9_number_6 ?_
  obtain ⟨z2, hz2, hf⟩ := obd hf
  refine cV_allI X (As := [.int (z1 0 13)]) (rest := []) (c_X9_byteAt l E a z1 tr (z1 0 13) hz2) pv_X9_byteAt ml_X9_72 ⟨rfl, rfl⟩ ⟨(Nat.le_of_ble_eq_true rfl), (Nat.le_of_ble_eq_true rfl)⟩ hP hD hS (wX9_g0_0 _ _ _ _) rfl (wX9_adr _ _ _ _ _ _) rfl hl.1 rfl (Nat.le_of_ble_eq_true rfl) dX9_number_9 ⟨Nat.le_refl _, Nat.le_refl _⟩ (fun H locs hP hD hS => ?_)
  refine lv_bipush (v := 48) hx hb dX9_number_12 (by decide) ?_
  refine lv_isub hx hb dX9_number_14 ?_
  refine lv_istore_n (lv' := [(3, .int (z2 - 48)), (0, .ref (a 0)), (1, .int p1), (2, .int p2)]) hx hb dX9_number_15 rfl hl (by decide) rfl (fun ls hl => ?_)
  refine lv_aload_n hx hb dX9_number_16 rfl (lv_at hl 1 rfl) ?_
  refine r_get X hP 0 (wX9_g0_0 _ _ _ _) rfl inc_X9 14 (by decide) fl_X9_85 rfl dX9_number_17 ?_
  refine lv_iconst (v := 2) hx hb dX9_number_20 (by decide) ?_
  have J1 : ∀ (x3 : Int32), j_X9_number_1 p1 p2 z1 z2 x3 = some out → ∀ (H : Heap) (locs : List Loc) (ls : Array Slot), va_P E.1 vwCl (wX9 E a z1 tr) H → va_D A (wX9 E a z1 tr) → va_S A s.heap H locs → lv_has ls 5 [(0, .ref (a 0)), (1, .int p1), (2, .int p2), (3, .int (z2 - 48))] → W p l e rm_X9_number s m ([.ref (a 0), .int p1, .int p2] : List Value).toArray below meth c H locs 0 0 (MQ below (va_Qi (fun x (_ : Unit) => x = out.1) (fun _ t => QW E (wX9 E a out.2 tr) t) A) ([.ref (a 0), .int p1, .int p2] : List Value).toArray s 0 0 A) (F0 m 46 ls [.int x3]) := by
    intro x3 hf H locs ls hP hD hS hl
    refine lv_istore (lv' := [(4, .int x3), (0, .ref (a 0)), (1, .int p1), (2, .int p2), (3, .int (z2 - 48))]) hx hb dX9_number_46 hl (by decide) rfl (fun ls hl => ?_)
    refine lv_aload_n hx hb dX9_number_48 rfl (lv_at hl 1 rfl) ?_
    refine r_get X hP 0 (wX9_g0_0 _ _ _ _) rfl inc_X9 12 (by decide) fl_X9_82 rfl dX9_number_49 ?_
    refine lv_iconst (v := 2) hx hb dX9_number_52 (by decide) ?_
    refine lv_icmp_ne (tgt := 91) hx hb dX9_number_53 (by decide) (fun c4 => ?_) (fun c4 => ?_)
    · have hf := (if_neg c4).symm.trans hf
      refine lv_bipush (v := (-9)) hx hb dX9_number_91 (by decide) ?_
      have ho := Option.some.inj hf
      have hv : (-9) = out.1 := by rw [← ho]
      have hw := congrArg (fun o : Int32 × Sg => (wX9 E a o.2 tr)) ho
      exact r_iret X hr hP hS hv hw dX9_number_93
    · have hf := (if_pos c4).symm.trans hf
      refine lv_aload_n hx hb dX9_number_56 rfl (lv_at hl 1 rfl) ?_
      refine r_get X hP 0 (wX9_g0_0 _ _ _ _) rfl inc_X9 14 (by decide) fl_X9_85 rfl dX9_number_57 ?_
      refine lv_iconst (v := 1) hx hb dX9_number_60 (by decide) ?_
      have J2 : j_X9_number_2 p1 p2 z1 x3 = some out → ∀ (H : Heap) (locs : List Loc) (ls : Array Slot), va_P E.1 vwCl (wX9 E a z1 tr) H → va_D A (wX9 E a z1 tr) → va_S A s.heap H locs → lv_has ls 5 [(1, .int p1), (2, .int p2), (4, .int x3)] → W p l e rm_X9_number s m ([.ref (a 0), .int p1, .int p2] : List Value).toArray below meth c H locs 0 0 (MQ below (va_Qi (fun x (_ : Unit) => x = out.1) (fun _ t => QW E (wX9 E a out.2 tr) t) A) ([.ref (a 0), .int p1, .int p2] : List Value).toArray s 0 0 A) (F0 m 76 ls []) := by
        intro hf H locs ls hP hD hS hl
        refine lv_iload hx hb dX9_number_76 (lv_at hl 2 rfl) ?_
        refine lv_iload_n hx hb dX9_number_78 rfl (lv_at hl 0 rfl) ?_
        refine lv_iload_n hx hb dX9_number_79 rfl (lv_at hl 1 rfl) ?_
        obtain ⟨z5, hz5, hf⟩ := obd hf
        refine cS_roI X (As := [.int x3, .int p1, .int p2]) (rest := []) (c_X9_in l E x3 p1 p2 hz5) ps_X9_in ml_X9_55 ⟨rfl, rfl⟩ ⟨(Nat.le_of_ble_eq_true rfl), (Nat.le_of_ble_eq_true rfl)⟩ hP hD hS (is := []) (wc := []) rfl rfl rfl hl.1 rfl (Nat.le_of_ble_eq_true rfl) dX9_number_80 ⟨Nat.le_refl _, Nat.le_refl _⟩ (fun H locs hP hS => ?_)
        refine lv_if_eq (tgt := 91) hx hb dX9_number_83 (by decide) (fun c6 => ?_) (fun c6 => ?_)
        · have hf := (if_pos c6).symm.trans hf
          refine lv_bipush (v := (-9)) hx hb dX9_number_91 (by decide) ?_
          have ho := Option.some.inj hf
          have hv : (-9) = out.1 := by rw [← ho]
          have hw := congrArg (fun o : Int32 × Sg => (wX9 E a o.2 tr)) ho
          exact r_iret X hr hP hS hv hw dX9_number_93
        · have hf := (if_neg c6).symm.trans hf
          refine lv_iload hx hb dX9_number_86 (lv_at hl 2 rfl) ?_
          refine lv_goto (tgt := 93) hx hb dX9_number_88 (by decide) ?_
          have ho := Option.some.inj hf
          have hv : x3 = out.1 := by rw [← ho]
          have hw := congrArg (fun o : Int32 × Sg => (wX9 E a o.2 tr)) ho
          exact r_iret X hr hP hS hv hw dX9_number_93
      refine lv_icmp_eq (tgt := 76) hx hb dX9_number_61 (by decide) (fun c7 => ?_) (fun c7 => ?_)
      · have hf := (if_pos c7).symm.trans hf
        exact J2 hf H locs ls hP hD hS (lv_sub hl [2, 3, 0] rfl)
      · have hf := (if_neg c7).symm.trans hf
        refine lv_aload_n hx hb dX9_number_64 rfl (lv_at hl 1 rfl) ?_
        refine r_get X hP 0 (wX9_g0_0 _ _ _ _) rfl inc_X9 14 (by decide) fl_X9_85 rfl dX9_number_65 ?_
        refine lv_iconst (v := 2) hx hb dX9_number_68 (by decide) ?_
        refine lv_icmp_ne (tgt := 91) hx hb dX9_number_69 (by decide) (fun c8 => ?_) (fun c8 => ?_)
        · have hf := (if_neg c8).symm.trans hf
          refine lv_bipush (v := (-9)) hx hb dX9_number_91 (by decide) ?_
          have ho := Option.some.inj hf
          have hv : (-9) = out.1 := by rw [← ho]
          have hw := congrArg (fun o : Int32 × Sg => (wX9 E a o.2 tr)) ho
          exact r_iret X hr hP hS hv hw dX9_number_93
        · have hf := (if_pos c8).symm.trans hf
          refine lv_iload_n hx hb dX9_number_72 rfl (lv_at hl 4 rfl) ?_
          refine lv_if_le (tgt := 91) hx hb dX9_number_73 (by decide) (fun c9 => ?_) (fun c9 => ?_)
          · have hf := (if_pos c9).symm.trans hf
            refine lv_bipush (v := (-9)) hx hb dX9_number_91 (by decide) ?_
            have ho := Option.some.inj hf
            have hv : (-9) = out.1 := by rw [← ho]
            have hw := congrArg (fun o : Int32 × Sg => (wX9 E a o.2 tr)) ho
            exact r_iret X hr hP hS hv hw dX9_number_93
          · have hf := (if_neg c9).symm.trans hf
            exact J2 hf H locs ls hP hD hS (lv_sub hl [2, 3, 0] rfl)
  refine lv_icmp_ne (tgt := 45) hx hb dX9_number_21 (by decide) (fun c10 => ?_) (fun c10 => ?_)
  · have hf := (if_neg c10).symm.trans hf
    refine lv_iload_n hx hb dX9_number_45 rfl (lv_at hl 0 rfl) ?_
    exact J1 (z2 - 48) hf H locs ls hP hD hS (lv_sub hl [1, 2, 3, 0] rfl)
  · have hf := (if_pos c10).symm.trans hf
    refine lv_bipush (v := 10) hx hb dX9_number_24 (by decide) ?_
    refine lv_iload_n hx hb dX9_number_26 rfl (lv_at hl 0 rfl) ?_
    refine lv_imul hx hb dX9_number_27 ?_
    refine lv_aload_n hx hb dX9_number_28 rfl (lv_at hl 1 rfl) ?_
    refine lv_aload_n hx hb dX9_number_29 rfl (lv_at hl 1 rfl) ?_
    refine r_get X hP 0 (wX9_g0_0 _ _ _ _) rfl inc_X9 13 (by decide) fl_X9_76 rfl dX9_number_30 ?_
    refine lv_iconst (v := 1) hx hb dX9_number_33 (by decide) ?_
    refine lv_iadd hx hb dX9_number_34 ?_
    obtain ⟨z11, hz11, hf⟩ := obd hf
    refine cV_allI X (As := [.int ((z1 0 13) + 1)]) (rest := [.int (10 * (z2 - 48))]) (c_X9_byteAt l E a z1 tr ((z1 0 13) + 1) hz11) pv_X9_byteAt ml_X9_72 ⟨rfl, rfl⟩ ⟨(Nat.le_of_ble_eq_true rfl), (Nat.le_of_ble_eq_true rfl)⟩ hP hD hS (wX9_g0_0 _ _ _ _) rfl (wX9_adr _ _ _ _ _ _) rfl hl.1 rfl (Nat.le_of_ble_eq_true rfl) dX9_number_35 ⟨Nat.le_refl _, Nat.le_refl _⟩ (fun H locs hP hD hS => ?_)
    refine lv_iadd hx hb dX9_number_38 ?_
    refine lv_bipush (v := 48) hx hb dX9_number_39 (by decide) ?_
    refine lv_isub hx hb dX9_number_41 ?_
    refine lv_goto (tgt := 46) hx hb dX9_number_42 (by decide) ?_
    exact J1 (((10 * (z2 - 48)) + z11) - 48) hf H locs ls hP hD hS (lv_sub hl [1, 2, 3, 0] rfl)
def rm_X9_readsMap : Room := { frames := 4, cells := 0, slots := 0, locals := 86 }
theorem pv_X9_readsMap : PkV RX9 yX9_readsMap cX9_readsMap 3 (some .boolean) 0 := ⟨im_X9_readsMap, se_X9_readsMap, ini_X9, cd_X9_readsMap, by decide +kernel⟩
set_option maxHeartbeats 4000000 in
set_option maxRecDepth 100000 in
theorem c_X9_readsMap (l : Launch) (E : Ev) (a : Nat → Nat) (σ : Sg) (tr : Int64) {out : Int32 × Sg} (hf : f_X9_readsMap σ tr = some out) : MtI l yX9_readsMap (wl yX9_readsMap cX9_readsMap 3 (some .boolean)) rm_X9_readsMap E [.ref (a 0)] (wX9 E a σ tr) out.1 (wX9 E a out.2 tr) := by
  refine mt_of (QQ := (fun A => va_Qi (fun x (_ : Unit) => x = out.1) (fun _ t => QW E (wX9 E a out.2 tr) t) A)) (by decide) (Nat.le_of_ble_eq_true rfl) (fun p e s m below meth c A ls X hr hP hD hS hl => ?_)
  have hx := X.1.1
  have hb := X.1.2.1
  have hl : lv_has ls 3 [(0, .ref (a 0))] := hl
  obtain ⟨H, hHe⟩ : ∃ H : Heap, H = s.heap := ⟨_, rfl⟩
  obtain ⟨locs, hLe⟩ : ∃ locs : List Loc, locs = [] := ⟨_, rfl⟩
  have hP : va_P E.1 vwCl (wX9 E a σ tr) H := by rw [hHe]; exact hP
  have hS : va_S A s.heap H locs := by rw [hHe, hLe]; exact hS
  rw [← hLe, show W p l e rm_X9_readsMap s m ([.ref (a 0)] : List Value).toArray below meth c s.heap locs 0 0 = W p l e rm_X9_readsMap s m ([.ref (a 0)] : List Value).toArray below meth c H locs 0 0 from by rw [hHe]]
  refine lv_aload_n hx hb dX9_readsMap_0 rfl (lv_at hl 0 rfl) ?_
  refine r_get X hP 0 (wX9_g0_0 _ _ _ _) rfl inc_X9 4 (by decide) fl_X9_16 rfl dX9_readsMap_1 ?_
  refine lv_iconst (v := 4) hx hb dX9_readsMap_4 (by decide) ?_
  obtain ⟨h1, hf⟩ := chk_in hf
  refine r_iald X hP 3 (wX9_g0_3 _ _ _ _) h1 dX9_readsMap_5 ?_
  have J1 : ∀ (x2 : Int32) (g3 : Sg), j_X9_readsMap_1 tr x2 g3 = some out → ∀ (H : Heap) (locs : List Loc) (ls : Array Slot), va_P E.1 vwCl (wX9 E a g3 tr) H → va_D A (wX9 E a g3 tr) → va_S A s.heap H locs → lv_has ls 3 [(0, .ref (a 0))] → W p l e rm_X9_readsMap s m ([.ref (a 0)] : List Value).toArray below meth c H locs 0 0 (MQ below (va_Qi (fun x (_ : Unit) => x = out.1) (fun _ t => QW E (wX9 E a out.2 tr) t) A) ([.ref (a 0)] : List Value).toArray s 0 0 A) (F0 m 20 ls [.int x2]) := by
    intro x2 g3 hf H locs ls hP hD hS hl
    refine lv_istore_n (lv' := [(1, .int x2), (0, .ref (a 0))]) hx hb dX9_readsMap_20 rfl hl (by decide) rfl (fun ls hl => ?_)
    refine lv_iload_n hx hb dX9_readsMap_21 rfl (lv_at hl 0 rfl) ?_
    refine lv_bipush (v := (-9)) hx hb dX9_readsMap_22 (by decide) ?_
    refine lv_icmp_ne (tgt := 29) hx hb dX9_readsMap_24 (by decide) (fun c4 => ?_) (fun c4 => ?_)
    · have hf := (if_neg c4).symm.trans hf
      refine lv_aload_n hx hb dX9_readsMap_29 rfl (lv_at hl 1 rfl) ?_
      refine lv_iconst (v := 1) hx hb dX9_readsMap_30 (by decide) ?_
      refine lv_iconst (v := 4) hx hb dX9_readsMap_31 (by decide) ?_
      obtain ⟨z5, hz5, hf⟩ := obd hf
      refine cV_allI X (As := [.int 1, .int 4]) (rest := []) (c_X9_number l E a g3 tr 1 4 hz5) pv_X9_number ml_X9_101 ⟨rfl, rfl⟩ ⟨(Nat.le_of_ble_eq_true rfl), (Nat.le_of_ble_eq_true rfl)⟩ hP hD hS (wX9_g0_0 _ _ _ _) rfl (wX9_adr _ _ _ _ _ _) rfl hl.1 rfl (Nat.le_of_ble_eq_true rfl) dX9_readsMap_32 ⟨Nat.le_refl _, Nat.le_refl _⟩ (fun H locs hP hD hS => ?_)
      refine lv_istore_n (lv' := [(2, .int z5.1), (1, .int x2), (0, .ref (a 0))]) hx hb dX9_readsMap_35 rfl hl (by decide) rfl (fun ls hl => ?_)
      refine lv_aload_n hx hb dX9_readsMap_36 rfl (lv_at hl 2 rfl) ?_
      refine r_get X hP 0 (wX9_g0_0 _ _ _ _) rfl inc_X9 4 (by decide) fl_X9_16 rfl dX9_readsMap_37 ?_
      refine lv_iconst (v := 0) hx hb dX9_readsMap_40 (by decide) ?_
      refine lv_iload_n hx hb dX9_readsMap_41 rfl (lv_at hl 1 rfl) ?_
      obtain ⟨h6, hf⟩ := chk_in hf
      refine r_iast X hP hD hS 3 (wX9_g0_3 _ _ _ _) h6 (wX9_t0_3 _ _ _ _ _ _) dX9_readsMap_42 (fun H locs hP hD hS => ?_)
      refine lv_aload_n hx hb dX9_readsMap_43 rfl (lv_at hl 2 rfl) ?_
      refine r_get X hP 0 (wX9_g0_0 _ _ _ _) rfl inc_X9 4 (by decide) fl_X9_16 rfl dX9_readsMap_44 ?_
      refine lv_iconst (v := 1) hx hb dX9_readsMap_47 (by decide) ?_
      refine lv_iload_n hx hb dX9_readsMap_48 rfl (lv_at hl 0 rfl) ?_
      obtain ⟨h7, hf⟩ := chk_in hf
      refine r_iast X hP hD hS 3 (wX9_g0_3 _ _ _ _) h7 (wX9_t0_3 _ _ _ _ _ _) dX9_readsMap_49 (fun H locs hP hD hS => ?_)
      refine lv_iload_n hx hb dX9_readsMap_50 rfl (lv_at hl 0 rfl) ?_
      refine lv_bipush (v := (-9)) hx hb dX9_readsMap_51 (by decide) ?_
      refine lv_icmp_eq (tgt := 60) hx hb dX9_readsMap_53 (by decide) (fun c8 => ?_) (fun c8 => ?_)
      · have hf := (if_pos c8).symm.trans hf
        refine lv_iconst (v := 0) hx hb dX9_readsMap_60 (by decide) ?_
        have ho := Option.some.inj hf
        have hv : 0 = out.1 := by rw [← ho]
        have hw := congrArg (fun o : Int32 × Sg => (wX9 E a o.2 tr)) ho
        exact r_zret X hr hP hS rfl hv hw dX9_readsMap_61
      · have hf := (if_neg c8).symm.trans hf
        refine lv_iconst (v := 1) hx hb dX9_readsMap_56 (by decide) ?_
        refine lv_goto (tgt := 61) hx hb dX9_readsMap_57 (by decide) ?_
        have ho := Option.some.inj hf
        have hv : 1 = out.1 := by rw [← ho]
        have hw := congrArg (fun o : Int32 × Sg => (wX9 E a o.2 tr)) ho
        exact r_zret X hr hP hS rfl hv hw dX9_readsMap_61
    · have hf := (if_pos c4).symm.trans hf
      refine lv_iconst (v := 0) hx hb dX9_readsMap_27 (by decide) ?_
      have ho := Option.some.inj hf
      have hv : 0 = out.1 := by rw [← ho]
      have hw := congrArg (fun o : Int32 × Sg => (wX9 E a o.2 tr)) ho
      exact r_zret X hr hP hS rfl hv hw dX9_readsMap_28
  refine lv_if_le (tgt := 14) hx hb dX9_readsMap_6 (by decide) (fun c9 => ?_) (fun c9 => ?_)
  · have hf := (if_pos c9).symm.trans hf
    refine lv_aload_n hx hb dX9_readsMap_14 rfl (lv_at hl 0 rfl) ?_
    refine lv_iconst (v := 1) hx hb dX9_readsMap_15 (by decide) ?_
    refine lv_iconst (v := 4) hx hb dX9_readsMap_16 (by decide) ?_
    obtain ⟨z10, hz10, hf⟩ := obd hf
    refine cV_allI X (As := [.int 1, .int 4]) (rest := []) (c_X9_number l E a σ tr 1 4 hz10) pv_X9_number ml_X9_101 ⟨rfl, rfl⟩ ⟨(Nat.le_of_ble_eq_true rfl), (Nat.le_of_ble_eq_true rfl)⟩ hP hD hS (wX9_g0_0 _ _ _ _) rfl (wX9_adr _ _ _ _ _ _) rfl hl.1 rfl (Nat.le_of_ble_eq_true rfl) dX9_readsMap_17 ⟨Nat.le_refl _, Nat.le_refl _⟩ (fun H locs hP hD hS => ?_)
    exact J1 z10.1 z10.2 hf H locs ls hP hD hS (lv_sub hl [0] rfl)
  · have hf := (if_neg c9).symm.trans hf
    refine lv_bipush (v := (-9)) hx hb dX9_readsMap_9 (by decide) ?_
    refine lv_goto (tgt := 20) hx hb dX9_readsMap_11 (by decide) ?_
    exact J1 (-9) σ hf H locs ls hP hD hS (lv_sub hl [0] rfl)
def rm_X9_readsQuarrel : Room := { frames := 4, cells := 0, slots := 0, locals := 86 }
theorem pv_X9_readsQuarrel : PkV RX9 yX9_readsQuarrel cX9_readsQuarrel 4 (some .boolean) 0 := ⟨im_X9_readsQuarrel, se_X9_readsQuarrel, ini_X9, cd_X9_readsQuarrel, by decide +kernel⟩
set_option maxHeartbeats 4000000 in
set_option maxRecDepth 100000 in
theorem c_X9_readsQuarrel (l : Launch) (E : Ev) (a : Nat → Nat) (σ : Sg) (tr : Int64) {out : Int32 × Sg} (hf : f_X9_readsQuarrel σ tr = some out) : MtI l yX9_readsQuarrel (wl yX9_readsQuarrel cX9_readsQuarrel 4 (some .boolean)) rm_X9_readsQuarrel E [.ref (a 0)] (wX9 E a σ tr) out.1 (wX9 E a out.2 tr) := by
  refine mt_of (QQ := (fun A => va_Qi (fun x (_ : Unit) => x = out.1) (fun _ t => QW E (wX9 E a out.2 tr) t) A)) (by decide) (Nat.le_of_ble_eq_true rfl) (fun p e s m below meth c A ls X hr hP hD hS hl => ?_)
  have hx := X.1.1
  have hb := X.1.2.1
  have hl : lv_has ls 4 [(0, .ref (a 0))] := hl
  obtain ⟨H, hHe⟩ : ∃ H : Heap, H = s.heap := ⟨_, rfl⟩
  obtain ⟨locs, hLe⟩ : ∃ locs : List Loc, locs = [] := ⟨_, rfl⟩
  have hP : va_P E.1 vwCl (wX9 E a σ tr) H := by rw [hHe]; exact hP
  have hS : va_S A s.heap H locs := by rw [hHe, hLe]; exact hS
  rw [← hLe, show W p l e rm_X9_readsQuarrel s m ([.ref (a 0)] : List Value).toArray below meth c s.heap locs 0 0 = W p l e rm_X9_readsQuarrel s m ([.ref (a 0)] : List Value).toArray below meth c H locs 0 0 from by rw [hHe]]
  refine lv_aload_n hx hb dX9_readsQuarrel_0 rfl (lv_at hl 0 rfl) ?_
  refine r_get X hP 0 (wX9_g0_0 _ _ _ _) rfl inc_X9 4 (by decide) fl_X9_16 rfl dX9_readsQuarrel_1 ?_
  refine lv_iconst (v := 3) hx hb dX9_readsQuarrel_4 (by decide) ?_
  obtain ⟨h1, hf⟩ := chk_in hf
  refine r_iald X hP 3 (wX9_g0_3 _ _ _ _) h1 dX9_readsQuarrel_5 ?_
  refine lv_istore_n (lv' := [(1, .int (σ 3 (3 : Int32).toNatClampNeg)), (0, .ref (a 0))]) hx hb dX9_readsQuarrel_6 rfl hl (by decide) rfl (fun ls hl => ?_)
  refine lv_iload_n hx hb dX9_readsQuarrel_7 rfl (lv_at hl 0 rfl) ?_
  refine lv_bipush (v := 6) hx hb dX9_readsQuarrel_8 (by decide) ?_
  have J1 : ∀ (x2 : Int32) (g3 : Sg), j_X9_readsQuarrel_1 σ tr x2 g3 = some out → ∀ (H : Heap) (locs : List Loc) (ls : Array Slot), va_P E.1 vwCl (wX9 E a g3 tr) H → va_D A (wX9 E a g3 tr) → va_S A s.heap H locs → lv_has ls 4 [(0, .ref (a 0)), (1, .int (σ 3 (3 : Int32).toNatClampNeg))] → W p l e rm_X9_readsQuarrel s m ([.ref (a 0)] : List Value).toArray below meth c H locs 0 0 (MQ below (va_Qi (fun x (_ : Unit) => x = out.1) (fun _ t => QW E (wX9 E a out.2 tr) t) A) ([.ref (a 0)] : List Value).toArray s 0 0 A) (F0 m 29 ls [.int x2]) := by
    intro x2 g3 hf H locs ls hP hD hS hl
    refine lv_istore_n (lv' := [(2, .int x2), (0, .ref (a 0)), (1, .int (σ 3 (3 : Int32).toNatClampNeg))]) hx hb dX9_readsQuarrel_29 rfl hl (by decide) rfl (fun ls hl => ?_)
    refine lv_iload_n hx hb dX9_readsQuarrel_30 rfl (lv_at hl 0 rfl) ?_
    refine lv_bipush (v := (-9)) hx hb dX9_readsQuarrel_31 (by decide) ?_
    refine lv_icmp_ne (tgt := 38) hx hb dX9_readsQuarrel_33 (by decide) (fun c4 => ?_) (fun c4 => ?_)
    · have hf := (if_neg c4).symm.trans hf
      refine lv_aload_n hx hb dX9_readsQuarrel_38 rfl (lv_at hl 1 rfl) ?_
      refine lv_iconst (v := 0) hx hb dX9_readsQuarrel_39 (by decide) ?_
      refine lv_aload_n hx hb dX9_readsQuarrel_40 rfl (lv_at hl 1 rfl) ?_
      obtain ⟨z5, hz5, hf⟩ := obd hf
      refine cV_allI X (As := []) (rest := [.int 0, .ref (a 0)]) (c_X9_draftCells l E a g3 tr hz5) pv_X9_draftCells ml_X9_105 ⟨rfl, rfl⟩ ⟨(Nat.le_of_ble_eq_true rfl), (Nat.le_of_ble_eq_true rfl)⟩ hP hD hS (wX9_g0_0 _ _ _ _) rfl (wX9_adr _ _ _ _ _ _) rfl hl.1 rfl (Nat.le_of_ble_eq_true rfl) dX9_readsQuarrel_41 ⟨Nat.le_refl _, Nat.le_refl _⟩ (fun H locs hP hD hS => ?_)
      refine lv_iconst (v := 1) hx hb dX9_readsQuarrel_44 (by decide) ?_
      refine lv_isub hx hb dX9_readsQuarrel_45 ?_
      obtain ⟨z6, hz6, hf⟩ := obd hf
      refine cV_allI X (As := [.int 0, .int (z5 - 1)]) (rest := []) (c_X9_number l E a g3 tr 0 (z5 - 1) hz6) pv_X9_number ml_X9_101 ⟨rfl, rfl⟩ ⟨(Nat.le_of_ble_eq_true rfl), (Nat.le_of_ble_eq_true rfl)⟩ hP hD hS (wX9_g0_0 _ _ _ _) rfl (wX9_adr _ _ _ _ _ _) rfl hl.1 rfl (Nat.le_of_ble_eq_true rfl) dX9_readsQuarrel_46 ⟨Nat.le_refl _, Nat.le_refl _⟩ (fun H locs hP hD hS => ?_)
      refine lv_istore_n (lv' := [(3, .int z6.1), (2, .int x2), (0, .ref (a 0)), (1, .int (σ 3 (3 : Int32).toNatClampNeg))]) hx hb dX9_readsQuarrel_49 rfl hl (by decide) rfl (fun ls hl => ?_)
      refine lv_iload_n hx hb dX9_readsQuarrel_50 rfl (lv_at hl 0 rfl) ?_
      refine lv_bipush (v := (-9)) hx hb dX9_readsQuarrel_51 (by decide) ?_
      refine lv_icmp_eq (tgt := 61) hx hb dX9_readsQuarrel_53 (by decide) (fun c7 => ?_) (fun c7 => ?_)
      · have hf := (if_pos c7).symm.trans hf
        refine lv_iconst (v := 0) hx hb dX9_readsQuarrel_61 (by decide) ?_
        have ho := Option.some.inj hf
        have hv : 0 = out.1 := by rw [← ho]
        have hw := congrArg (fun o : Int32 × Sg => (wX9 E a o.2 tr)) ho
        exact r_zret X hr hP hS rfl hv hw dX9_readsQuarrel_62
      · have hf := (if_neg c7).symm.trans hf
        refine lv_iload_n hx hb dX9_readsQuarrel_56 rfl (lv_at hl 0 rfl) ?_
        refine lv_iload_n hx hb dX9_readsQuarrel_57 rfl (lv_at hl 1 rfl) ?_
        refine lv_icmp_ne (tgt := 63) hx hb dX9_readsQuarrel_58 (by decide) (fun c8 => ?_) (fun c8 => ?_)
        · have hf := (if_neg c8).symm.trans hf
          refine lv_aload_n hx hb dX9_readsQuarrel_63 rfl (lv_at hl 2 rfl) ?_
          refine r_get X hP 0 (wX9_g0_0 _ _ _ _) rfl inc_X9 4 (by decide) fl_X9_16 rfl dX9_readsQuarrel_64 ?_
          refine lv_bipush (v := 22) hx hb dX9_readsQuarrel_67 (by decide) ?_
          refine lv_iload_n hx hb dX9_readsQuarrel_69 rfl (lv_at hl 3 rfl) ?_
          refine lv_iadd hx hb dX9_readsQuarrel_70 ?_
          refine lv_iload_n hx hb dX9_readsQuarrel_71 rfl (lv_at hl 1 rfl) ?_
          obtain ⟨h9, hf⟩ := chk_in hf
          refine r_iast X hP hD hS 3 (wX9_g0_3 _ _ _ _) h9 (wX9_t0_3 _ _ _ _ _ _) dX9_readsQuarrel_72 (fun H locs hP hD hS => ?_)
          refine lv_aload_n hx hb dX9_readsQuarrel_73 rfl (lv_at hl 2 rfl) ?_
          refine r_get X hP 0 (wX9_g0_0 _ _ _ _) rfl inc_X9 4 (by decide) fl_X9_16 rfl dX9_readsQuarrel_74 ?_
          refine lv_bipush (v := 28) hx hb dX9_readsQuarrel_77 (by decide) ?_
          refine lv_iload_n hx hb dX9_readsQuarrel_79 rfl (lv_at hl 3 rfl) ?_
          refine lv_iadd hx hb dX9_readsQuarrel_80 ?_
          refine lv_iload_n hx hb dX9_readsQuarrel_81 rfl (lv_at hl 0 rfl) ?_
          obtain ⟨h10, hf⟩ := chk_in hf
          refine r_iast X hP hD hS 3 (wX9_g0_3 _ _ _ _) h10 (wX9_t0_3 _ _ _ _ _ _) dX9_readsQuarrel_82 (fun H locs hP hD hS => ?_)
          refine lv_aload_n hx hb dX9_readsQuarrel_83 rfl (lv_at hl 2 rfl) ?_
          refine r_get X hP 0 (wX9_g0_0 _ _ _ _) rfl inc_X9 4 (by decide) fl_X9_16 rfl dX9_readsQuarrel_84 ?_
          refine lv_iconst (v := 3) hx hb dX9_readsQuarrel_87 (by decide) ?_
          refine lv_dup2_11 hx hb dX9_readsQuarrel_88 rfl rfl ?_
          obtain ⟨h11, hf⟩ := chk_in hf
          refine r_iald X hP 3 (wX9_g0_3 _ _ _ _) h11 dX9_readsQuarrel_89 ?_
          refine lv_iconst (v := 1) hx hb dX9_readsQuarrel_90 (by decide) ?_
          refine lv_iadd hx hb dX9_readsQuarrel_91 ?_
          obtain ⟨h12, hf⟩ := chk_in hf
          refine r_iast X hP hD hS 3 (wX9_g0_3 _ _ _ _) h12 (wX9_t0_3 _ _ _ _ _ _) dX9_readsQuarrel_92 (fun H locs hP hD hS => ?_)
          refine lv_iconst (v := 1) hx hb dX9_readsQuarrel_93 (by decide) ?_
          have ho := Option.some.inj hf
          have hv : 1 = out.1 := by rw [← ho]
          have hw := congrArg (fun o : Int32 × Sg => (wX9 E a o.2 tr)) ho
          exact r_zret X hr hP hS rfl hv hw dX9_readsQuarrel_94
        · have hf := (if_pos c8).symm.trans hf
          refine lv_iconst (v := 0) hx hb dX9_readsQuarrel_61 (by decide) ?_
          have ho := Option.some.inj hf
          have hv : 0 = out.1 := by rw [← ho]
          have hw := congrArg (fun o : Int32 × Sg => (wX9 E a o.2 tr)) ho
          exact r_zret X hr hP hS rfl hv hw dX9_readsQuarrel_62
    · have hf := (if_pos c4).symm.trans hf
      refine lv_iconst (v := 0) hx hb dX9_readsQuarrel_36 (by decide) ?_
      have ho := Option.some.inj hf
      have hv : 0 = out.1 := by rw [← ho]
      have hw := congrArg (fun o : Int32 × Sg => (wX9 E a o.2 tr)) ho
      exact r_zret X hr hP hS rfl hv hw dX9_readsQuarrel_37
  refine lv_icmp_ne (tgt := 18) hx hb dX9_readsQuarrel_10 (by decide) (fun c13 => ?_) (fun c13 => ?_)
  · have hf := (if_neg c13).symm.trans hf
    refine lv_aload_n hx hb dX9_readsQuarrel_18 rfl (lv_at hl 1 rfl) ?_
    refine lv_iconst (v := 0) hx hb dX9_readsQuarrel_19 (by decide) ?_
    refine lv_aload_n hx hb dX9_readsQuarrel_20 rfl (lv_at hl 1 rfl) ?_
    obtain ⟨z14, hz14, hf⟩ := obd hf
    refine cV_allI X (As := []) (rest := [.int 0, .ref (a 0)]) (c_X9_draftCells l E a σ tr hz14) pv_X9_draftCells ml_X9_105 ⟨rfl, rfl⟩ ⟨(Nat.le_of_ble_eq_true rfl), (Nat.le_of_ble_eq_true rfl)⟩ hP hD hS (wX9_g0_0 _ _ _ _) rfl (wX9_adr _ _ _ _ _ _) rfl hl.1 rfl (Nat.le_of_ble_eq_true rfl) dX9_readsQuarrel_21 ⟨Nat.le_refl _, Nat.le_refl _⟩ (fun H locs hP hD hS => ?_)
    refine lv_iconst (v := 1) hx hb dX9_readsQuarrel_24 (by decide) ?_
    refine lv_isub hx hb dX9_readsQuarrel_25 ?_
    obtain ⟨z15, hz15, hf⟩ := obd hf
    refine cV_allI X (As := [.int 0, .int (z14 - 1)]) (rest := []) (c_X9_number l E a σ tr 0 (z14 - 1) hz15) pv_X9_number ml_X9_101 ⟨rfl, rfl⟩ ⟨(Nat.le_of_ble_eq_true rfl), (Nat.le_of_ble_eq_true rfl)⟩ hP hD hS (wX9_g0_0 _ _ _ _) rfl (wX9_adr _ _ _ _ _ _) rfl hl.1 rfl (Nat.le_of_ble_eq_true rfl) dX9_readsQuarrel_26 ⟨Nat.le_refl _, Nat.le_refl _⟩ (fun H locs hP hD hS => ?_)
    exact J1 z15.1 z15.2 hf H locs ls hP hD hS (lv_sub hl [1, 0] rfl)
  · have hf := (if_pos c13).symm.trans hf
    refine lv_bipush (v := (-9)) hx hb dX9_readsQuarrel_13 (by decide) ?_
    refine lv_goto (tgt := 29) hx hb dX9_readsQuarrel_15 (by decide) ?_
    exact J1 (-9) σ hf H locs ls hP hD hS (lv_sub hl [1, 0] rfl)
def rm_X9_readsTear : Room := { frames := 4, cells := 0, slots := 0, locals := 86 }
theorem pv_X9_readsTear : PkV RX9 yX9_readsTear cX9_readsTear 2 (some .boolean) 0 := ⟨im_X9_readsTear, se_X9_readsTear, ini_X9, cd_X9_readsTear, by decide +kernel⟩
set_option maxHeartbeats 4000000 in
set_option maxRecDepth 100000 in
theorem c_X9_readsTear (l : Launch) (E : Ev) (a : Nat → Nat) (σ : Sg) (tr : Int64) {out : Int32 × Sg} (hf : f_X9_readsTear σ tr = some out) : MtI l yX9_readsTear (wl yX9_readsTear cX9_readsTear 2 (some .boolean)) rm_X9_readsTear E [.ref (a 0)] (wX9 E a σ tr) out.1 (wX9 E a out.2 tr) := by
  refine mt_of (QQ := (fun A => va_Qi (fun x (_ : Unit) => x = out.1) (fun _ t => QW E (wX9 E a out.2 tr) t) A)) (by decide) (Nat.le_of_ble_eq_true rfl) (fun p e s m below meth c A ls X hr hP hD hS hl => ?_)
  have hx := X.1.1
  have hb := X.1.2.1
  have hl : lv_has ls 2 [(0, .ref (a 0))] := hl
  obtain ⟨H, hHe⟩ : ∃ H : Heap, H = s.heap := ⟨_, rfl⟩
  obtain ⟨locs, hLe⟩ : ∃ locs : List Loc, locs = [] := ⟨_, rfl⟩
  have hP : va_P E.1 vwCl (wX9 E a σ tr) H := by rw [hHe]; exact hP
  have hS : va_S A s.heap H locs := by rw [hHe, hLe]; exact hS
  rw [← hLe, show W p l e rm_X9_readsTear s m ([.ref (a 0)] : List Value).toArray below meth c s.heap locs 0 0 = W p l e rm_X9_readsTear s m ([.ref (a 0)] : List Value).toArray below meth c H locs 0 0 from by rw [hHe]]
  refine lv_aload_n hx hb dX9_readsTear_0 rfl (lv_at hl 0 rfl) ?_
  refine r_get X hP 0 (wX9_g0_0 _ _ _ _) rfl inc_X9 4 (by decide) fl_X9_16 rfl dX9_readsTear_1 ?_
  refine lv_iconst (v := 5) hx hb dX9_readsTear_4 (by decide) ?_
  obtain ⟨h1, hf⟩ := chk_in hf
  refine r_iald X hP 3 (wX9_g0_3 _ _ _ _) h1 dX9_readsTear_5 ?_
  have J1 : ∀ (x2 : Int32) (g3 : Sg), j_X9_readsTear_1 x2 g3 = some out → ∀ (H : Heap) (locs : List Loc) (ls : Array Slot), va_P E.1 vwCl (wX9 E a g3 tr) H → va_D A (wX9 E a g3 tr) → va_S A s.heap H locs → lv_has ls 2 [(0, .ref (a 0))] → W p l e rm_X9_readsTear s m ([.ref (a 0)] : List Value).toArray below meth c H locs 0 0 (MQ below (va_Qi (fun x (_ : Unit) => x = out.1) (fun _ t => QW E (wX9 E a out.2 tr) t) A) ([.ref (a 0)] : List Value).toArray s 0 0 A) (F0 m 21 ls [.int x2]) := by
    intro x2 g3 hf H locs ls hP hD hS hl
    refine lv_istore_n (lv' := [(1, .int x2), (0, .ref (a 0))]) hx hb dX9_readsTear_21 rfl hl (by decide) rfl (fun ls hl => ?_)
    refine lv_aload_n hx hb dX9_readsTear_22 rfl (lv_at hl 1 rfl) ?_
    refine r_get X hP 0 (wX9_g0_0 _ _ _ _) rfl inc_X9 4 (by decide) fl_X9_16 rfl dX9_readsTear_23 ?_
    refine lv_iconst (v := 5) hx hb dX9_readsTear_26 (by decide) ?_
    refine lv_iconst (v := 1) hx hb dX9_readsTear_27 (by decide) ?_
    obtain ⟨h4, hf⟩ := chk_in hf
    refine r_iast X hP hD hS 3 (wX9_g0_3 _ _ _ _) h4 (wX9_t0_3 _ _ _ _ _ _) dX9_readsTear_28 (fun H locs hP hD hS => ?_)
    refine lv_aload_n hx hb dX9_readsTear_29 rfl (lv_at hl 1 rfl) ?_
    refine r_get X hP 0 (wX9_g0_0 _ _ _ _) rfl inc_X9 4 (by decide) fl_X9_16 rfl dX9_readsTear_30 ?_
    refine lv_iconst (v := 2) hx hb dX9_readsTear_33 (by decide) ?_
    refine lv_iload_n hx hb dX9_readsTear_34 rfl (lv_at hl 0 rfl) ?_
    obtain ⟨h5, hf⟩ := chk_in hf
    refine r_iast X hP hD hS 3 (wX9_g0_3 _ _ _ _) h5 (wX9_t0_3 _ _ _ _ _ _) dX9_readsTear_35 (fun H locs hP hD hS => ?_)
    refine lv_iload_n hx hb dX9_readsTear_36 rfl (lv_at hl 0 rfl) ?_
    refine lv_bipush (v := (-9)) hx hb dX9_readsTear_37 (by decide) ?_
    refine lv_icmp_eq (tgt := 46) hx hb dX9_readsTear_39 (by decide) (fun c6 => ?_) (fun c6 => ?_)
    · have hf := (if_pos c6).symm.trans hf
      refine lv_iconst (v := 0) hx hb dX9_readsTear_46 (by decide) ?_
      have ho := Option.some.inj hf
      have hv : 0 = out.1 := by rw [← ho]
      have hw := congrArg (fun o : Int32 × Sg => (wX9 E a o.2 tr)) ho
      exact r_zret X hr hP hS rfl hv hw dX9_readsTear_47
    · have hf := (if_neg c6).symm.trans hf
      refine lv_iconst (v := 1) hx hb dX9_readsTear_42 (by decide) ?_
      refine lv_goto (tgt := 47) hx hb dX9_readsTear_43 (by decide) ?_
      have ho := Option.some.inj hf
      have hv : 1 = out.1 := by rw [← ho]
      have hw := congrArg (fun o : Int32 × Sg => (wX9 E a o.2 tr)) ho
      exact r_zret X hr hP hS rfl hv hw dX9_readsTear_47
  refine lv_if_le (tgt := 14) hx hb dX9_readsTear_6 (by decide) (fun c7 => ?_) (fun c7 => ?_)
  · have hf := (if_pos c7).symm.trans hf
    refine lv_aload_n hx hb dX9_readsTear_14 rfl (lv_at hl 0 rfl) ?_
    refine lv_iconst (v := 1) hx hb dX9_readsTear_15 (by decide) ?_
    refine lv_bipush (v := 9) hx hb dX9_readsTear_16 (by decide) ?_
    obtain ⟨z8, hz8, hf⟩ := obd hf
    refine cV_allI X (As := [.int 1, .int 9]) (rest := []) (c_X9_number l E a σ tr 1 9 hz8) pv_X9_number ml_X9_101 ⟨rfl, rfl⟩ ⟨(Nat.le_of_ble_eq_true rfl), (Nat.le_of_ble_eq_true rfl)⟩ hP hD hS (wX9_g0_0 _ _ _ _) rfl (wX9_adr _ _ _ _ _ _) rfl hl.1 rfl (Nat.le_of_ble_eq_true rfl) dX9_readsTear_18 ⟨Nat.le_refl _, Nat.le_refl _⟩ (fun H locs hP hD hS => ?_)
    exact J1 z8.1 z8.2 hf H locs ls hP hD hS (lv_sub hl [0] rfl)
  · have hf := (if_neg c7).symm.trans hf
    refine lv_bipush (v := (-9)) hx hb dX9_readsTear_9 (by decide) ?_
    refine lv_goto (tgt := 21) hx hb dX9_readsTear_11 (by decide) ?_
    exact J1 (-9) σ hf H locs ls hP hD hS (lv_sub hl [0] rfl)
def rm_X9_readsWorth : Room := { frames := 4, cells := 0, slots := 0, locals := 86 }
theorem pv_X9_readsWorth : PkV RX9 yX9_readsWorth cX9_readsWorth 3 (some .boolean) 0 := ⟨im_X9_readsWorth, se_X9_readsWorth, ini_X9, cd_X9_readsWorth, by decide +kernel⟩
set_option maxHeartbeats 4000000 in
set_option maxRecDepth 100000 in
theorem c_X9_readsWorth (l : Launch) (E : Ev) (a : Nat → Nat) (σ : Sg) (tr : Int64) {out : Int32 × Sg} (hf : f_X9_readsWorth σ tr = some out) : MtI l yX9_readsWorth (wl yX9_readsWorth cX9_readsWorth 3 (some .boolean)) rm_X9_readsWorth E [.ref (a 0)] (wX9 E a σ tr) out.1 (wX9 E a out.2 tr) := by
  refine mt_of (QQ := (fun A => va_Qi (fun x (_ : Unit) => x = out.1) (fun _ t => QW E (wX9 E a out.2 tr) t) A)) (by decide) (Nat.le_of_ble_eq_true rfl) (fun p e s m below meth c A ls X hr hP hD hS hl => ?_)
  have hx := X.1.1
  have hb := X.1.2.1
  have hl : lv_has ls 3 [(0, .ref (a 0))] := hl
  obtain ⟨H, hHe⟩ : ∃ H : Heap, H = s.heap := ⟨_, rfl⟩
  obtain ⟨locs, hLe⟩ : ∃ locs : List Loc, locs = [] := ⟨_, rfl⟩
  have hP : va_P E.1 vwCl (wX9 E a σ tr) H := by rw [hHe]; exact hP
  have hS : va_S A s.heap H locs := by rw [hHe, hLe]; exact hS
  rw [← hLe, show W p l e rm_X9_readsWorth s m ([.ref (a 0)] : List Value).toArray below meth c s.heap locs 0 0 = W p l e rm_X9_readsWorth s m ([.ref (a 0)] : List Value).toArray below meth c H locs 0 0 from by rw [hHe]]
  refine lv_aload_n hx hb dX9_readsWorth_0 rfl (lv_at hl 0 rfl) ?_
  refine lv_iconst (v := 0) hx hb dX9_readsWorth_1 (by decide) ?_
  refine lv_aload_n hx hb dX9_readsWorth_2 rfl (lv_at hl 0 rfl) ?_
  obtain ⟨z1, hz1, hf⟩ := obd hf
  refine cV_allI X (As := []) (rest := [.int 0, .ref (a 0)]) (c_X9_draftCells l E a σ tr hz1) pv_X9_draftCells ml_X9_105 ⟨rfl, rfl⟩ ⟨(Nat.le_of_ble_eq_true rfl), (Nat.le_of_ble_eq_true rfl)⟩ hP hD hS (wX9_g0_0 _ _ _ _) rfl (wX9_adr _ _ _ _ _ _) rfl hl.1 rfl (Nat.le_of_ble_eq_true rfl) dX9_readsWorth_3 ⟨Nat.le_refl _, Nat.le_refl _⟩ (fun H locs hP hD hS => ?_)
  refine lv_iconst (v := 1) hx hb dX9_readsWorth_6 (by decide) ?_
  refine lv_isub hx hb dX9_readsWorth_7 ?_
  obtain ⟨z2, hz2, hf⟩ := obd hf
  refine cV_allI X (As := [.int 0, .int (z1 - 1)]) (rest := []) (c_X9_number l E a σ tr 0 (z1 - 1) hz2) pv_X9_number ml_X9_101 ⟨rfl, rfl⟩ ⟨(Nat.le_of_ble_eq_true rfl), (Nat.le_of_ble_eq_true rfl)⟩ hP hD hS (wX9_g0_0 _ _ _ _) rfl (wX9_adr _ _ _ _ _ _) rfl hl.1 rfl (Nat.le_of_ble_eq_true rfl) dX9_readsWorth_8 ⟨Nat.le_refl _, Nat.le_refl _⟩ (fun H locs hP hD hS => ?_)
  refine lv_istore_n (lv' := [(1, .int z2.1), (0, .ref (a 0))]) hx hb dX9_readsWorth_11 rfl hl (by decide) rfl (fun ls hl => ?_)
  refine lv_iload_n hx hb dX9_readsWorth_12 rfl (lv_at hl 0 rfl) ?_
  refine lv_bipush (v := (-9)) hx hb dX9_readsWorth_13 (by decide) ?_
  refine lv_icmp_ne (tgt := 20) hx hb dX9_readsWorth_15 (by decide) (fun c3 => ?_) (fun c3 => ?_)
  · have hf := (if_neg c3).symm.trans hf
    refine lv_aload_n hx hb dX9_readsWorth_20 rfl (lv_at hl 1 rfl) ?_
    refine lv_iconst (v := 0) hx hb dX9_readsWorth_21 (by decide) ?_
    refine lv_bipush (v := 9) hx hb dX9_readsWorth_22 (by decide) ?_
    obtain ⟨z4, hz4, hf⟩ := obd hf
    refine cV_allI X (As := [.int 0, .int 9]) (rest := []) (c_X9_number l E a z2.2 tr 0 9 hz4) pv_X9_number ml_X9_101 ⟨rfl, rfl⟩ ⟨(Nat.le_of_ble_eq_true rfl), (Nat.le_of_ble_eq_true rfl)⟩ hP hD hS (wX9_g0_0 _ _ _ _) rfl (wX9_adr _ _ _ _ _ _) rfl hl.1 rfl (Nat.le_of_ble_eq_true rfl) dX9_readsWorth_24 ⟨Nat.le_refl _, Nat.le_refl _⟩ (fun H locs hP hD hS => ?_)
    refine lv_istore_n (lv' := [(2, .int z4.1), (1, .int z2.1), (0, .ref (a 0))]) hx hb dX9_readsWorth_27 rfl hl (by decide) rfl (fun ls hl => ?_)
    refine lv_aload_n hx hb dX9_readsWorth_28 rfl (lv_at hl 2 rfl) ?_
    refine r_get X hP 0 (wX9_g0_0 _ _ _ _) rfl inc_X9 4 (by decide) fl_X9_16 rfl dX9_readsWorth_29 ?_
    refine lv_bipush (v := 6) hx hb dX9_readsWorth_32 (by decide) ?_
    refine lv_iload_n hx hb dX9_readsWorth_34 rfl (lv_at hl 1 rfl) ?_
    refine lv_iadd hx hb dX9_readsWorth_35 ?_
    refine lv_iload_n hx hb dX9_readsWorth_36 rfl (lv_at hl 0 rfl) ?_
    obtain ⟨h5, hf⟩ := chk_in hf
    refine r_iast X hP hD hS 3 (wX9_g0_3 _ _ _ _) h5 (wX9_t0_3 _ _ _ _ _ _) dX9_readsWorth_37 (fun H locs hP hD hS => ?_)
    refine lv_iload_n hx hb dX9_readsWorth_38 rfl (lv_at hl 0 rfl) ?_
    refine lv_bipush (v := (-9)) hx hb dX9_readsWorth_39 (by decide) ?_
    refine lv_icmp_eq (tgt := 48) hx hb dX9_readsWorth_41 (by decide) (fun c6 => ?_) (fun c6 => ?_)
    · have hf := (if_pos c6).symm.trans hf
      refine lv_iconst (v := 0) hx hb dX9_readsWorth_48 (by decide) ?_
      have ho := Option.some.inj hf
      have hv : 0 = out.1 := by rw [← ho]
      have hw := congrArg (fun o : Int32 × Sg => (wX9 E a o.2 tr)) ho
      exact r_zret X hr hP hS rfl hv hw dX9_readsWorth_49
    · have hf := (if_neg c6).symm.trans hf
      refine lv_iconst (v := 1) hx hb dX9_readsWorth_44 (by decide) ?_
      refine lv_goto (tgt := 49) hx hb dX9_readsWorth_45 (by decide) ?_
      have ho := Option.some.inj hf
      have hv : 1 = out.1 := by rw [← ho]
      have hw := congrArg (fun o : Int32 × Sg => (wX9 E a o.2 tr)) ho
      exact r_zret X hr hP hS rfl hv hw dX9_readsWorth_49
  · have hf := (if_pos c3).symm.trans hf
    refine lv_iconst (v := 0) hx hb dX9_readsWorth_18 (by decide) ?_
    have ho := Option.some.inj hf
    have hv : 0 = out.1 := by rw [← ho]
    have hw := congrArg (fun o : Int32 × Sg => (wX9 E a o.2 tr)) ho
    exact r_zret X hr hP hS rfl hv hw dX9_readsWorth_19
def rm_X9_readsItem : Room := { frames := 5, cells := 0, slots := 0, locals := 109 }
theorem pv_X9_readsItem : PkV RX9 yX9_readsItem cX9_readsItem 2 (some .boolean) 1 := ⟨im_X9_readsItem, se_X9_readsItem, ini_X9, cd_X9_readsItem, by decide +kernel⟩
set_option maxHeartbeats 4000000 in
set_option maxRecDepth 100000 in
theorem c_X9_readsItem (l : Launch) (E : Ev) (a : Nat → Nat) (σ : Sg) (tr : Int64) (p1 : Int32) {out : Int32 × Sg} (hf : f_X9_readsItem σ tr p1 = some out) : MtI l yX9_readsItem (wl yX9_readsItem cX9_readsItem 2 (some .boolean)) rm_X9_readsItem E [.ref (a 0), .int p1] (wX9 E a σ tr) out.1 (wX9 E a out.2 tr) := by
  refine mt_of (QQ := (fun A => va_Qi (fun x (_ : Unit) => x = out.1) (fun _ t => QW E (wX9 E a out.2 tr) t) A)) (by decide) (Nat.le_of_ble_eq_true rfl) (fun p e s m below meth c A ls X hr hP hD hS hl => ?_)
  have hx := X.1.1
  have hb := X.1.2.1
  have hl : lv_has ls 2 [(0, .ref (a 0)), (1, .int p1)] := hl
  obtain ⟨H, hHe⟩ : ∃ H : Heap, H = s.heap := ⟨_, rfl⟩
  obtain ⟨locs, hLe⟩ : ∃ locs : List Loc, locs = [] := ⟨_, rfl⟩
  have hP : va_P E.1 vwCl (wX9 E a σ tr) H := by rw [hHe]; exact hP
  have hS : va_S A s.heap H locs := by rw [hHe, hLe]; exact hS
  rw [← hLe, show W p l e rm_X9_readsItem s m ([.ref (a 0), .int p1] : List Value).toArray below meth c s.heap locs 0 0 = W p l e rm_X9_readsItem s m ([.ref (a 0), .int p1] : List Value).toArray below meth c H locs 0 0 from by rw [hHe]]
  refine lv_iload_n hx hb dX9_readsItem_0 rfl (lv_at hl 1 rfl) ?_
  refine lv_if_ne (tgt := 11) hx hb dX9_readsItem_1 (by decide) (fun c1 => ?_) (fun c1 => ?_)
  · have hf := (if_neg c1).symm.trans hf
    refine lv_iload_n hx hb dX9_readsItem_11 rfl (lv_at hl 1 rfl) ?_
    refine lv_iconst (v := 1) hx hb dX9_readsItem_12 (by decide) ?_
    refine lv_icmp_ne (tgt := 23) hx hb dX9_readsItem_13 (by decide) (fun c2 => ?_) (fun c2 => ?_)
    · have hf := (if_neg c2).symm.trans hf
      refine lv_iload_n hx hb dX9_readsItem_23 rfl (lv_at hl 1 rfl) ?_
      refine lv_iconst (v := 2) hx hb dX9_readsItem_24 (by decide) ?_
      refine lv_icmp_ne (tgt := 35) hx hb dX9_readsItem_25 (by decide) (fun c3 => ?_) (fun c3 => ?_)
      · have hf := (if_neg c3).symm.trans hf
        refine lv_iload_n hx hb dX9_readsItem_35 rfl (lv_at hl 1 rfl) ?_
        refine lv_iconst (v := 3) hx hb dX9_readsItem_36 (by decide) ?_
        refine lv_icmp_ne (tgt := 51) hx hb dX9_readsItem_37 (by decide) (fun c4 => ?_) (fun c4 => ?_)
        · have hf := (if_neg c4).symm.trans hf
          refine lv_iconst (v := 0) hx hb dX9_readsItem_51 (by decide) ?_
          have ho := Option.some.inj hf
          have hv : 0 = out.1 := by rw [← ho]
          have hw := congrArg (fun o : Int32 × Sg => (wX9 E a o.2 tr)) ho
          exact r_zret X hr hP hS rfl hv hw dX9_readsItem_52
        · have hf := (if_pos c4).symm.trans hf
          refine lv_aload_n hx hb dX9_readsItem_40 rfl (lv_at hl 0 rfl) ?_
          obtain ⟨z5, hz5, hf⟩ := obd hf
          refine cV_allI X (As := []) (rest := []) (c_X9_readsTear l E a σ tr hz5) pv_X9_readsTear ml_X9_117 ⟨rfl, rfl⟩ ⟨(Nat.le_of_ble_eq_true rfl), (Nat.le_of_ble_eq_true rfl)⟩ hP hD hS (wX9_g0_0 _ _ _ _) rfl (wX9_adr _ _ _ _ _ _) rfl hl.1 rfl (Nat.le_of_ble_eq_true rfl) dX9_readsItem_41 ⟨Nat.le_refl _, Nat.le_refl _⟩ (fun H locs hP hD hS => ?_)
          refine lv_if_eq (tgt := 51) hx hb dX9_readsItem_44 (by decide) (fun c6 => ?_) (fun c6 => ?_)
          · have hf := (if_pos c6).symm.trans hf
            refine lv_iconst (v := 0) hx hb dX9_readsItem_51 (by decide) ?_
            have ho := Option.some.inj hf
            have hv : 0 = out.1 := by rw [← ho]
            have hw := congrArg (fun o : Int32 × Sg => (wX9 E a o.2 tr)) ho
            exact r_zret X hr hP hS rfl hv hw dX9_readsItem_52
          · have hf := (if_neg c6).symm.trans hf
            refine lv_iconst (v := 1) hx hb dX9_readsItem_47 (by decide) ?_
            refine lv_goto (tgt := 52) hx hb dX9_readsItem_48 (by decide) ?_
            have ho := Option.some.inj hf
            have hv : 1 = out.1 := by rw [← ho]
            have hw := congrArg (fun o : Int32 × Sg => (wX9 E a o.2 tr)) ho
            exact r_zret X hr hP hS rfl hv hw dX9_readsItem_52
      · have hf := (if_pos c3).symm.trans hf
        refine lv_aload_n hx hb dX9_readsItem_28 rfl (lv_at hl 0 rfl) ?_
        obtain ⟨z7, hz7, hf⟩ := obd hf
        refine cV_allI X (As := []) (rest := []) (c_X9_readsQuarrel l E a σ tr hz7) pv_X9_readsQuarrel ml_X9_114 ⟨rfl, rfl⟩ ⟨(Nat.le_of_ble_eq_true rfl), (Nat.le_of_ble_eq_true rfl)⟩ hP hD hS (wX9_g0_0 _ _ _ _) rfl (wX9_adr _ _ _ _ _ _) rfl hl.1 rfl (Nat.le_of_ble_eq_true rfl) dX9_readsItem_29 ⟨Nat.le_refl _, Nat.le_refl _⟩ (fun H locs hP hD hS => ?_)
        refine lv_goto (tgt := 52) hx hb dX9_readsItem_32 (by decide) ?_
        obtain ⟨⟨h8, -⟩, hf⟩ := cbl_in hf
        have ho := Option.some.inj hf
        have hv : z7.1 = out.1 := by rw [← ho]
        have hw := congrArg (fun o : Int32 × Sg => (wX9 E a o.2 tr)) ho
        exact r_zret X hr hP hS h8 hv hw dX9_readsItem_52
    · have hf := (if_pos c2).symm.trans hf
      refine lv_aload_n hx hb dX9_readsItem_16 rfl (lv_at hl 0 rfl) ?_
      obtain ⟨z9, hz9, hf⟩ := obd hf
      refine cV_allI X (As := []) (rest := []) (c_X9_readsWorth l E a σ tr hz9) pv_X9_readsWorth ml_X9_111 ⟨rfl, rfl⟩ ⟨(Nat.le_of_ble_eq_true rfl), (Nat.le_of_ble_eq_true rfl)⟩ hP hD hS (wX9_g0_0 _ _ _ _) rfl (wX9_adr _ _ _ _ _ _) rfl hl.1 rfl (Nat.le_of_ble_eq_true rfl) dX9_readsItem_17 ⟨Nat.le_refl _, Nat.le_refl _⟩ (fun H locs hP hD hS => ?_)
      refine lv_goto (tgt := 52) hx hb dX9_readsItem_20 (by decide) ?_
      obtain ⟨⟨h10, -⟩, hf⟩ := cbl_in hf
      have ho := Option.some.inj hf
      have hv : z9.1 = out.1 := by rw [← ho]
      have hw := congrArg (fun o : Int32 × Sg => (wX9 E a o.2 tr)) ho
      exact r_zret X hr hP hS h10 hv hw dX9_readsItem_52
  · have hf := (if_pos c1).symm.trans hf
    refine lv_aload_n hx hb dX9_readsItem_4 rfl (lv_at hl 0 rfl) ?_
    obtain ⟨z11, hz11, hf⟩ := obd hf
    refine cV_allI X (As := []) (rest := []) (c_X9_readsMap l E a σ tr hz11) pv_X9_readsMap ml_X9_108 ⟨rfl, rfl⟩ ⟨(Nat.le_of_ble_eq_true rfl), (Nat.le_of_ble_eq_true rfl)⟩ hP hD hS (wX9_g0_0 _ _ _ _) rfl (wX9_adr _ _ _ _ _ _) rfl hl.1 rfl (Nat.le_of_ble_eq_true rfl) dX9_readsItem_5 ⟨Nat.le_refl _, Nat.le_refl _⟩ (fun H locs hP hD hS => ?_)
    refine lv_goto (tgt := 52) hx hb dX9_readsItem_8 (by decide) ?_
    obtain ⟨⟨h12, -⟩, hf⟩ := cbl_in hf
    have ho := Option.some.inj hf
    have hv : z11.1 = out.1 := by rw [← ho]
    have hw := congrArg (fun o : Int32 × Sg => (wX9 E a o.2 tr)) ho
    exact r_zret X hr hP hS h12 hv hw dX9_readsItem_52
def rm_X9_verb : Room := { frames := 1, cells := 0, slots := 0, locals := 21 }
theorem pv_X9_verb : PkV RX9 yX9_verb cX9_verb 4 (some .int) 0 := ⟨im_X9_verb, se_X9_verb, ini_X9, cd_X9_verb, by decide +kernel⟩
set_option maxHeartbeats 4000000 in
set_option maxRecDepth 100000 in
theorem c_X9_verb (l : Launch) (E : Ev) (a : Nat → Nat) (σ : Sg) (tr : Int64) {out : Int32} (hf : f_X9_verb σ tr = some out) : MtI l yX9_verb (wl yX9_verb cX9_verb 4 (some .int)) rm_X9_verb E [.ref (a 0)] (wX9 E a σ tr) out (wX9 E a σ tr) := by
  refine mt_of (QQ := (fun A => va_Qi (fun x (_ : Unit) => x = out) (fun _ t => QW E (wX9 E a σ tr) t) A)) (by decide) (Nat.le_of_ble_eq_true rfl) (fun p e s m below meth c A ls X hr hP hD hS hl => ?_)
  have hx := X.1.1
  have hb := X.1.2.1
  have hl : lv_has ls 4 [(0, .ref (a 0))] := hl
  obtain ⟨H, hHe⟩ : ∃ H : Heap, H = s.heap := ⟨_, rfl⟩
  obtain ⟨locs, hLe⟩ : ∃ locs : List Loc, locs = [] := ⟨_, rfl⟩
  have hP : va_P E.1 vwCl (wX9 E a σ tr) H := by rw [hHe]; exact hP
  have hS : va_S A s.heap H locs := by rw [hHe, hLe]; exact hS
  rw [← hLe, show W p l e rm_X9_verb s m ([.ref (a 0)] : List Value).toArray below meth c s.heap locs 0 0 = W p l e rm_X9_verb s m ([.ref (a 0)] : List Value).toArray below meth c H locs 0 0 from by rw [hHe]]
  refine lv_lconst (v := 0) hx hb dX9_verb_0 (by decide) ?_
  refine lv_lstore_n (lv' := [(1, .long 0), (0, .ref (a 0))]) hx hb dX9_verb_1 rfl hl (by decide) rfl (fun ls hl => ?_)
  refine lv_iconst (v := 0) hx hb dX9_verb_2 (by decide) ?_
  refine lv_istore_n (lv' := [(3, .int 0), (1, .long 0), (0, .ref (a 0))]) hx hb dX9_verb_3 rfl hl (by decide) rfl (fun ls hl => ?_)
  have J1 : ∀ (y1 : Int64), j_X9_verb_1 y1 = some out → ∀ (H : Heap) (locs : List Loc) (ls : Array Slot), va_P E.1 vwCl (wX9 E a σ tr) H → va_D A (wX9 E a σ tr) → va_S A s.heap H locs → lv_has ls 4 [(1, .long y1)] → W p l e rm_X9_verb s m ([.ref (a 0)] : List Value).toArray below meth c H locs 0 0 (MQ below (va_Qi (fun x (_ : Unit) => x = out) (fun _ t => QW E (wX9 E a σ tr) t) A) ([.ref (a 0)] : List Value).toArray s 0 0 A) (F0 m 53 ls []) := by
    intro y1 hf H locs ls hP hD hS hl
    refine lv_lload_n hx hb dX9_verb_53 rfl (lv_at hl 0 rfl) ?_
    refine lv_ldc2 hx hb X.1.2.2.2.1 (X.1.2.2.2.2 _ kl_X9_90) dX9_verb_54 ?_
    refine W.lcmp hx hb dX9_verb_57 ?_
    refine lv_if_ne (tgt := 65) hx hb dX9_verb_58 (by decide) (fun c2 => ?_) (fun c2 => ?_)
    · have hf := (if_neg c2).symm.trans hf
      refine lv_lload_n hx hb dX9_verb_65 rfl (lv_at hl 0 rfl) ?_
      refine lv_ldc2 hx hb X.1.2.2.2.1 (X.1.2.2.2.2 _ kl_X9_92) dX9_verb_66 ?_
      refine W.lcmp hx hb dX9_verb_69 ?_
      refine lv_if_ne (tgt := 77) hx hb dX9_verb_70 (by decide) (fun c3 => ?_) (fun c3 => ?_)
      · have hf := (if_neg c3).symm.trans hf
        refine lv_lload_n hx hb dX9_verb_77 rfl (lv_at hl 0 rfl) ?_
        refine lv_ldc2 hx hb X.1.2.2.2.1 (X.1.2.2.2.2 _ kl_X9_94) dX9_verb_78 ?_
        refine W.lcmp hx hb dX9_verb_81 ?_
        refine lv_if_ne (tgt := 89) hx hb dX9_verb_82 (by decide) (fun c4 => ?_) (fun c4 => ?_)
        · have hf := (if_neg c4).symm.trans hf
          refine lv_lload_n hx hb dX9_verb_89 rfl (lv_at hl 0 rfl) ?_
          refine lv_ldc2 hx hb X.1.2.2.2.1 (X.1.2.2.2.2 _ kl_X9_96) dX9_verb_90 ?_
          refine W.lcmp hx hb dX9_verb_93 ?_
          refine lv_if_ne (tgt := 101) hx hb dX9_verb_94 (by decide) (fun c5 => ?_) (fun c5 => ?_)
          · have hf := (if_neg c5).symm.trans hf
            refine lv_bipush (v := (-9)) hx hb dX9_verb_101 (by decide) ?_
            have ho := Option.some.inj hf
            exact r_iret X hr hP hS ho rfl dX9_verb_103
          · have hf := (if_pos c5).symm.trans hf
            refine lv_iconst (v := 3) hx hb dX9_verb_97 (by decide) ?_
            refine lv_goto (tgt := 103) hx hb dX9_verb_98 (by decide) ?_
            have ho := Option.some.inj hf
            exact r_iret X hr hP hS ho rfl dX9_verb_103
        · have hf := (if_pos c4).symm.trans hf
          refine lv_iconst (v := 2) hx hb dX9_verb_85 (by decide) ?_
          refine lv_goto (tgt := 103) hx hb dX9_verb_86 (by decide) ?_
          have ho := Option.some.inj hf
          exact r_iret X hr hP hS ho rfl dX9_verb_103
      · have hf := (if_pos c3).symm.trans hf
        refine lv_iconst (v := 1) hx hb dX9_verb_73 (by decide) ?_
        refine lv_goto (tgt := 103) hx hb dX9_verb_74 (by decide) ?_
        have ho := Option.some.inj hf
        exact r_iret X hr hP hS ho rfl dX9_verb_103
    · have hf := (if_pos c2).symm.trans hf
      refine lv_iconst (v := 0) hx hb dX9_verb_61 (by decide) ?_
      refine lv_goto (tgt := 103) hx hb dX9_verb_62 (by decide) ?_
      have ho := Option.some.inj hf
      exact r_iret X hr hP hS ho rfl dX9_verb_103
  have L9 := lc2_ind (o := out) (step := (s_X9_verb_4 σ tr j_X9_verb_1)) (fun y6 x7 => ∀ (H : Heap) (locs : List Loc) (ls : Array Slot), va_P E.1 vwCl (wX9 E a σ tr) H → va_D A (wX9 E a σ tr) → va_S A s.heap H locs → lv_has ls 4 [(0, .ref (a 0)), (1, .long y6), (3, .int x7)] → W p l e rm_X9_verb s m ([.ref (a 0)] : List Value).toArray below meth c H locs 0 0 (MQ below (va_Qi (fun x (_ : Unit) => x = out) (fun _ t => QW E (wX9 E a σ tr) t) A) ([.ref (a 0)] : List Value).toArray s 0 0 A) (F0 m 4 ls [])) (fun y6 x7 k8 ih9 hf H locs ls hP hD hS hl => by
    refine lv_iload_n hx hb dX9_verb_4 rfl (lv_at hl 2 rfl) ?_
    refine lv_aload_n hx hb dX9_verb_5 rfl (lv_at hl 0 rfl) ?_
    refine r_get X hP 0 (wX9_g0_0 _ _ _ _) rfl inc_X9 14 (by decide) fl_X9_85 rfl dX9_verb_6 ?_
    refine lv_icmp_ge (tgt := 53) hx hb dX9_verb_9 (by decide) (fun c10 => ?_) (fun c10 => ?_)
    · have hf := (if_pos c10).symm.trans hf
      exact J1 y6 hf H locs ls hP hD hS (lv_sub hl [1] rfl)
    · have hf := (if_neg c10).symm.trans hf
      refine lv_aload_n hx hb dX9_verb_12 rfl (lv_at hl 0 rfl) ?_
      refine r_get X hP 0 (wX9_g0_0 _ _ _ _) rfl inc_X9 14 (by decide) fl_X9_85 rfl dX9_verb_13 ?_
      refine lv_bipush (v := 8) hx hb dX9_verb_16 (by decide) ?_
      refine lv_icmp_ge (tgt := 53) hx hb dX9_verb_18 (by decide) (fun c11 => ?_) (fun c11 => ?_)
      · have hf := (if_pos c11).symm.trans hf
        exact J1 y6 hf H locs ls hP hD hS (lv_sub hl [1] rfl)
      · have hf := (if_neg c11).symm.trans hf
        refine lv_aload_n hx hb dX9_verb_21 rfl (lv_at hl 0 rfl) ?_
        refine r_get X hP 0 (wX9_g0_0 _ _ _ _) rfl inc_X9 12 (by decide) fl_X9_82 rfl dX9_verb_22 ?_
        refine lv_iconst (v := 1) hx hb dX9_verb_25 (by decide) ?_
        refine lv_icmp_ne (tgt := 53) hx hb dX9_verb_26 (by decide) (fun c12 => ?_) (fun c12 => ?_)
        · have hf := (if_neg c12).symm.trans hf
          exact J1 y6 hf H locs ls hP hD hS (lv_sub hl [1] rfl)
        · have hf := (if_pos c12).symm.trans hf
          refine lv_ldc2 hx hb X.1.2.2.2.1 (X.1.2.2.2.2 _ kl_X9_88) dX9_verb_29 ?_
          refine lv_lload_n hx hb dX9_verb_32 rfl (lv_at hl 1 rfl) ?_
          refine lv_lmul hx hb dX9_verb_33 ?_
          refine lv_aload_n hx hb dX9_verb_34 rfl (lv_at hl 0 rfl) ?_
          refine lv_aload_n hx hb dX9_verb_35 rfl (lv_at hl 0 rfl) ?_
          refine r_get X hP 0 (wX9_g0_0 _ _ _ _) rfl inc_X9 13 (by decide) fl_X9_76 rfl dX9_verb_36 ?_
          refine lv_iload_n hx hb dX9_verb_39 rfl (lv_at hl 2 rfl) ?_
          refine lv_iadd hx hb dX9_verb_40 ?_
          obtain ⟨z13, hz13, hf⟩ := obd hf
          refine cV_allI X (As := [.int ((σ 0 13) + x7)]) (rest := [.long (256 * y6)]) (c_X9_byteAt l E a σ tr ((σ 0 13) + x7) hz13) pv_X9_byteAt ml_X9_72 ⟨rfl, rfl⟩ ⟨(Nat.le_of_ble_eq_true rfl), (Nat.le_of_ble_eq_true rfl)⟩ hP hD hS (wX9_g0_0 _ _ _ _) rfl (wX9_adr _ _ _ _ _ _) rfl hl.1 rfl (Nat.le_of_ble_eq_true rfl) dX9_verb_41 ⟨Nat.le_refl _, Nat.le_refl _⟩ (fun H locs hP hD hS => ?_)
          refine lv_i2l hx hb dX9_verb_44 rfl ?_
          refine lv_ladd hx hb dX9_verb_45 ?_
          refine lv_lstore_n (lv' := [(1, .long ((256 * y6) + (z13 : Int32).toInt64)), (0, .ref (a 0)), (3, .int x7)]) hx hb dX9_verb_46 rfl hl (by decide) rfl (fun ls hl => ?_)
          refine lv_iinc (v := (x7 + 1)) (lv' := [(3, .int (x7 + 1)), (1, .long ((256 * y6) + (z13 : Int32).toInt64)), (0, .ref (a 0))]) hx hb dX9_verb_47 hl (k := 2) rfl rfl (by decide) rfl (fun ls hl => ?_)
          refine lv_goto (tgt := 4) hx hb dX9_verb_50 (by decide) ?_
          exact ih9 ((256 * y6) + (z13 : Int32).toInt64) (x7 + 1) hf H locs ls hP hD hS (lv_sub hl [2, 1, 0] rfl))
  exact L9 1000 0 0 hf H locs ls hP hD hS (lv_sub hl [2, 1, 0] rfl)
def rm_X9_reads : Room := { frames := 6, cells := 0, slots := 0, locals := 130 }
theorem pv_X9_reads : PkV RX9 yX9_reads cX9_reads 2 (some .boolean) 0 := ⟨im_X9_reads, se_X9_reads, ini_X9, cd_X9_reads, by decide +kernel⟩
set_option maxHeartbeats 4000000 in
set_option maxRecDepth 100000 in
theorem c_X9_reads (l : Launch) (E : Ev) (a : Nat → Nat) (σ : Sg) (tr : Int64) {out : Int32 × Sg} (hf : f_X9_reads σ tr = some out) : MtI l yX9_reads (wl yX9_reads cX9_reads 2 (some .boolean)) rm_X9_reads E [.ref (a 0)] (wX9 E a σ tr) out.1 (wX9 E a out.2 tr) := by
  refine mt_of (QQ := (fun A => va_Qi (fun x (_ : Unit) => x = out.1) (fun _ t => QW E (wX9 E a out.2 tr) t) A)) (by decide) (Nat.le_of_ble_eq_true rfl) (fun p e s m below meth c A ls X hr hP hD hS hl => ?_)
  have hx := X.1.1
  have hb := X.1.2.1
  have hl : lv_has ls 2 [(0, .ref (a 0))] := hl
  obtain ⟨H, hHe⟩ : ∃ H : Heap, H = s.heap := ⟨_, rfl⟩
  obtain ⟨locs, hLe⟩ : ∃ locs : List Loc, locs = [] := ⟨_, rfl⟩
  have hP : va_P E.1 vwCl (wX9 E a σ tr) H := by rw [hHe]; exact hP
  have hS : va_S A s.heap H locs := by rw [hHe, hLe]; exact hS
  rw [← hLe, show W p l e rm_X9_reads s m ([.ref (a 0)] : List Value).toArray below meth c s.heap locs 0 0 = W p l e rm_X9_reads s m ([.ref (a 0)] : List Value).toArray below meth c H locs 0 0 from by rw [hHe]]
  refine lv_iconst (v := 0) hx hb dX9_reads_0 (by decide) ?_
  refine lv_istore_n (lv' := [(1, .int 0), (0, .ref (a 0))]) hx hb dX9_reads_1 rfl hl (by decide) rfl (fun ls hl => ?_)
  have J1 : ∀ (g1 : Sg), j_X9_reads_1 tr g1 = some out → ∀ (H : Heap) (locs : List Loc) (ls : Array Slot), va_P E.1 vwCl (wX9 E a g1 tr) H → va_D A (wX9 E a g1 tr) → va_S A s.heap H locs → lv_has ls 2 [(0, .ref (a 0))] → W p l e rm_X9_reads s m ([.ref (a 0)] : List Value).toArray below meth c H locs 0 0 (MQ below (va_Qi (fun x (_ : Unit) => x = out.1) (fun _ t => QW E (wX9 E a out.2 tr) t) A) ([.ref (a 0)] : List Value).toArray s 0 0 A) (F0 m 36 ls []) := by
    intro g1 hf H locs ls hP hD hS hl
    refine lv_aload_n hx hb dX9_reads_36 rfl (lv_at hl 0 rfl) ?_
    refine r_get X hP 0 (wX9_g0_0 _ _ _ _) rfl inc_X9 4 (by decide) fl_X9_16 rfl dX9_reads_37 ?_
    refine lv_iconst (v := 0) hx hb dX9_reads_40 (by decide) ?_
    refine lv_iconst (v := 3) hx hb dX9_reads_41 (by decide) ?_
    obtain ⟨h2, hf⟩ := chk_in hf
    refine r_iast X hP hD hS 3 (wX9_g0_3 _ _ _ _) h2 (wX9_t0_3 _ _ _ _ _ _) dX9_reads_42 (fun H locs hP hD hS => ?_)
    refine lv_aload_n hx hb dX9_reads_43 rfl (lv_at hl 0 rfl) ?_
    refine r_get X hP 0 (wX9_g0_0 _ _ _ _) rfl inc_X9 4 (by decide) fl_X9_16 rfl dX9_reads_44 ?_
    refine lv_iconst (v := 1) hx hb dX9_reads_47 (by decide) ?_
    refine lv_iconst (v := 2) hx hb dX9_reads_48 (by decide) ?_
    obtain ⟨h3, hf⟩ := chk_in hf
    refine r_iast X hP hD hS 3 (wX9_g0_3 _ _ _ _) h3 (wX9_t0_3 _ _ _ _ _ _) dX9_reads_49 (fun H locs hP hD hS => ?_)
    refine lv_aload_n hx hb dX9_reads_50 rfl (lv_at hl 0 rfl) ?_
    refine r_get X hP 0 (wX9_g0_0 _ _ _ _) rfl inc_X9 4 (by decide) fl_X9_16 rfl dX9_reads_51 ?_
    refine lv_iconst (v := 2) hx hb dX9_reads_54 (by decide) ?_
    refine lv_iconst (v := 3) hx hb dX9_reads_55 (by decide) ?_
    obtain ⟨h4, hf⟩ := chk_in hf
    refine r_iast X hP hD hS 3 (wX9_g0_3 _ _ _ _) h4 (wX9_t0_3 _ _ _ _ _ _) dX9_reads_56 (fun H locs hP hD hS => ?_)
    refine lv_aload_n hx hb dX9_reads_57 rfl (lv_at hl 0 rfl) ?_
    refine lv_iconst (v := 0) hx hb dX9_reads_58 (by decide) ?_
    refine r_put X hP hD hS 0 (wX9_g0_0 _ _ _ _) rfl inc_X9 tyX9 tyX9_ok nmX9 11 (by decide) fl_X9_69 rfl (ty := .int) rfl rfl rfl (Nat.le_of_ble_eq_true rfl) (wX9_s0_0_11 _ _ _ _ _) dX9_reads_59 (fun H locs hP hD hS => ?_)
    refine lv_aload_n hx hb dX9_reads_62 rfl (lv_at hl 0 rfl) ?_
    obtain ⟨z5, hz5, hf⟩ := obd hf
    refine cV_allV X (As := []) (rest := []) (c_X9_token l E a (sg_st (sg_st (sg_st (sg_st g1 3 (0 : Int32).toNatClampNeg 3) 3 (1 : Int32).toNatClampNeg 2) 3 (2 : Int32).toNatClampNeg 3) 0 11 0) tr hz5) pv_X9_token ml_X9_98 ⟨rfl, rfl⟩ ⟨(Nat.le_of_ble_eq_true rfl), (Nat.le_of_ble_eq_true rfl)⟩ hP hD hS (wX9_g0_0 _ _ _ _) rfl (wX9_adr _ _ _ _ _ _) rfl hl.1 rfl (Nat.le_of_ble_eq_true rfl) dX9_reads_63 ⟨Nat.le_refl _, Nat.le_refl _⟩ (fun H locs hP hD hS => ?_)
    have L7 := lc1_ind (o := out) (step := (s_X9_reads_66 tr)) (fun g6 => ∀ (H : Heap) (locs : List Loc) (ls : Array Slot), va_P E.1 vwCl (wX9 E a g6 tr) H → va_D A (wX9 E a g6 tr) → va_S A s.heap H locs → lv_has ls 2 [(0, .ref (a 0))] → W p l e rm_X9_reads s m ([.ref (a 0)] : List Value).toArray below meth c H locs 0 0 (MQ below (va_Qi (fun x (_ : Unit) => x = out.1) (fun _ t => QW E (wX9 E a out.2 tr) t) A) ([.ref (a 0)] : List Value).toArray s 0 0 A) (F0 m 66 ls [])) (fun g6 k7 ih7 hf H locs ls hP hD hS hl => by
      refine lv_aload_n hx hb dX9_reads_66 rfl (lv_at hl 0 rfl) ?_
      refine r_get X hP 0 (wX9_g0_0 _ _ _ _) rfl inc_X9 12 (by decide) fl_X9_82 rfl dX9_reads_67 ?_
      refine lv_if_eq (tgt := 117) hx hb dX9_reads_70 (by decide) (fun c8 => ?_) (fun c8 => ?_)
      · have hf := (if_pos c8).symm.trans hf
        refine lv_iconst (v := 1) hx hb dX9_reads_117 (by decide) ?_
        have ho := Option.some.inj hf
        have hv : 1 = out.1 := by rw [← ho]
        have hw := congrArg (fun o : Int32 × Sg => (wX9 E a o.2 tr)) ho
        exact r_zret X hr hP hS rfl hv hw dX9_reads_118
      · have hf := (if_neg c8).symm.trans hf
        refine lv_aload_n hx hb dX9_reads_73 rfl (lv_at hl 0 rfl) ?_
        refine lv_aload_n hx hb dX9_reads_74 rfl (lv_at hl 0 rfl) ?_
        obtain ⟨z9, hz9, hf⟩ := obd hf
        refine cV_allI X (As := []) (rest := [.ref (a 0)]) (c_X9_verb l E a g6 tr hz9) pv_X9_verb ml_X9_120 ⟨rfl, rfl⟩ ⟨(Nat.le_of_ble_eq_true rfl), (Nat.le_of_ble_eq_true rfl)⟩ hP hD hS (wX9_g0_0 _ _ _ _) rfl (wX9_adr _ _ _ _ _ _) rfl hl.1 rfl (Nat.le_of_ble_eq_true rfl) dX9_reads_75 ⟨Nat.le_refl _, Nat.le_refl _⟩ (fun H locs hP hD hS => ?_)
        obtain ⟨z10, hz10, hf⟩ := obd hf
        refine cV_allI X (As := [.int z9]) (rest := []) (c_X9_readsItem l E a g6 tr z9 hz10) pv_X9_readsItem ml_X9_123 ⟨rfl, rfl⟩ ⟨(Nat.le_of_ble_eq_true rfl), (Nat.le_of_ble_eq_true rfl)⟩ hP hD hS (wX9_g0_0 _ _ _ _) rfl (wX9_adr _ _ _ _ _ _) rfl hl.1 rfl (Nat.le_of_ble_eq_true rfl) dX9_reads_78 ⟨Nat.le_refl _, Nat.le_refl _⟩ (fun H locs hP hD hS => ?_)
        refine lv_if_ne (tgt := 86) hx hb dX9_reads_81 (by decide) (fun c11 => ?_) (fun c11 => ?_)
        · have hf := (if_neg c11).symm.trans hf
          refine lv_aload_n hx hb dX9_reads_86 rfl (lv_at hl 0 rfl) ?_
          obtain ⟨z12, hz12, hf⟩ := obd hf
          refine cV_allV X (As := []) (rest := []) (c_X9_token l E a z10.2 tr hz12) pv_X9_token ml_X9_98 ⟨rfl, rfl⟩ ⟨(Nat.le_of_ble_eq_true rfl), (Nat.le_of_ble_eq_true rfl)⟩ hP hD hS (wX9_g0_0 _ _ _ _) rfl (wX9_adr _ _ _ _ _ _) rfl hl.1 rfl (Nat.le_of_ble_eq_true rfl) dX9_reads_87 ⟨Nat.le_refl _, Nat.le_refl _⟩ (fun H locs hP hD hS => ?_)
          refine lv_aload_n hx hb dX9_reads_90 rfl (lv_at hl 0 rfl) ?_
          refine r_get X hP 0 (wX9_g0_0 _ _ _ _) rfl inc_X9 12 (by decide) fl_X9_82 rfl dX9_reads_91 ?_
          refine lv_iconst (v := 3) hx hb dX9_reads_94 (by decide) ?_
          refine lv_icmp_eq (tgt := 100) hx hb dX9_reads_95 (by decide) (fun c13 => ?_) (fun c13 => ?_)
          · have hf := (if_pos c13).symm.trans hf
            refine lv_aload_n hx hb dX9_reads_100 rfl (lv_at hl 0 rfl) ?_
            refine r_get X hP 0 (wX9_g0_0 _ _ _ _) rfl inc_X9 4 (by decide) fl_X9_16 rfl dX9_reads_101 ?_
            refine lv_iconst (v := 4) hx hb dX9_reads_104 (by decide) ?_
            refine lv_dup2_11 hx hb dX9_reads_105 rfl rfl ?_
            obtain ⟨h14, hf⟩ := chk_in hf
            refine r_iald X hP 3 (wX9_g0_3 _ _ _ _) h14 dX9_reads_106 ?_
            refine lv_iconst (v := 1) hx hb dX9_reads_107 (by decide) ?_
            refine lv_iadd hx hb dX9_reads_108 ?_
            obtain ⟨h15, hf⟩ := chk_in hf
            refine r_iast X hP hD hS 3 (wX9_g0_3 _ _ _ _) h15 (wX9_t0_3 _ _ _ _ _ _) dX9_reads_109 (fun H locs hP hD hS => ?_)
            refine lv_aload_n hx hb dX9_reads_110 rfl (lv_at hl 0 rfl) ?_
            obtain ⟨z16, hz16, hf⟩ := obd hf
            refine cV_allV X (As := []) (rest := []) (c_X9_token l E a (sg_st z12 3 (4 : Int32).toNatClampNeg ((z12 3 (4 : Int32).toNatClampNeg) + 1)) tr hz16) pv_X9_token ml_X9_98 ⟨rfl, rfl⟩ ⟨(Nat.le_of_ble_eq_true rfl), (Nat.le_of_ble_eq_true rfl)⟩ hP hD hS (wX9_g0_0 _ _ _ _) rfl (wX9_adr _ _ _ _ _ _) rfl hl.1 rfl (Nat.le_of_ble_eq_true rfl) dX9_reads_111 ⟨Nat.le_refl _, Nat.le_refl _⟩ (fun H locs hP hD hS => ?_)
            refine lv_goto (tgt := 66) hx hb dX9_reads_114 (by decide) ?_
            exact ih7 z16 hf H locs ls hP hD hS (lv_sub hl [0] rfl)
          · have hf := (if_neg c13).symm.trans hf
            refine lv_iconst (v := 0) hx hb dX9_reads_98 (by decide) ?_
            have ho := Option.some.inj hf
            have hv : 0 = out.1 := by rw [← ho]
            have hw := congrArg (fun o : Int32 × Sg => (wX9 E a o.2 tr)) ho
            exact r_zret X hr hP hS rfl hv hw dX9_reads_99
        · have hf := (if_pos c11).symm.trans hf
          refine lv_iconst (v := 0) hx hb dX9_reads_84 (by decide) ?_
          have ho := Option.some.inj hf
          have hv : 0 = out.1 := by rw [← ho]
          have hw := congrArg (fun o : Int32 × Sg => (wX9 E a o.2 tr)) ho
          exact r_zret X hr hP hS rfl hv hw dX9_reads_85)
    exact L7 1000 z5 hf H locs ls hP hD hS (lv_sub hl [0] rfl)
  have L20 := lc2_ind (o := out) (step := (s_X9_reads_2 (j_X9_reads_1 tr))) (fun x17 g18 => ∀ (H : Heap) (locs : List Loc) (ls : Array Slot), va_P E.1 vwCl (wX9 E a g18 tr) H → va_D A (wX9 E a g18 tr) → va_S A s.heap H locs → lv_has ls 2 [(0, .ref (a 0)), (1, .int x17)] → W p l e rm_X9_reads s m ([.ref (a 0)] : List Value).toArray below meth c H locs 0 0 (MQ below (va_Qi (fun x (_ : Unit) => x = out.1) (fun _ t => QW E (wX9 E a out.2 tr) t) A) ([.ref (a 0)] : List Value).toArray s 0 0 A) (F0 m 2 ls [])) (fun x17 g18 k19 ih20 hf H locs ls hP hD hS hl => by
    refine lv_iload_n hx hb dX9_reads_2 rfl (lv_at hl 1 rfl) ?_
    refine lv_bipush (v := 35) hx hb dX9_reads_3 (by decide) ?_
    refine lv_icmp_ge (tgt := 36) hx hb dX9_reads_5 (by decide) (fun c21 => ?_) (fun c21 => ?_)
    · have hf := (if_pos c21).symm.trans hf
      exact J1 g18 hf H locs ls hP hD hS (lv_sub hl [0] rfl)
    · have hf := (if_neg c21).symm.trans hf
      refine lv_aload_n hx hb dX9_reads_8 rfl (lv_at hl 0 rfl) ?_
      refine r_get X hP 0 (wX9_g0_0 _ _ _ _) rfl inc_X9 4 (by decide) fl_X9_16 rfl dX9_reads_9 ?_
      refine lv_iload_n hx hb dX9_reads_12 rfl (lv_at hl 1 rfl) ?_
      refine lv_iload_n hx hb dX9_reads_13 rfl (lv_at hl 1 rfl) ?_
      refine lv_bipush (v := 6) hx hb dX9_reads_14 (by decide) ?_
      refine lv_bipush (v := 21) hx hb dX9_reads_16 (by decide) ?_
      obtain ⟨z22, hz22, hf⟩ := obd hf
      refine cS_roI X (As := [.int x17, .int 6, .int 21]) (rest := [.int x17, .ref (a 3)]) (c_X9_in l E x17 6 21 hz22) ps_X9_in ml_X9_55 ⟨rfl, rfl⟩ ⟨(Nat.le_of_ble_eq_true rfl), (Nat.le_of_ble_eq_true rfl)⟩ hP hD hS (is := []) (wc := []) rfl rfl rfl hl.1 rfl (Nat.le_of_ble_eq_true rfl) dX9_reads_18 ⟨Nat.le_refl _, Nat.le_refl _⟩ (fun H locs hP hS => ?_)
      have J2 : ∀ (x23 : Int32), j_X9_reads_2 x17 g18 k19 x23 = some out → ∀ (H : Heap) (locs : List Loc) (ls : Array Slot), va_P E.1 vwCl (wX9 E a g18 tr) H → va_D A (wX9 E a g18 tr) → va_S A s.heap H locs → lv_has ls 2 [(0, .ref (a 0)), (1, .int x17)] → W p l e rm_X9_reads s m ([.ref (a 0)] : List Value).toArray below meth c H locs 0 0 (MQ below (va_Qi (fun x (_ : Unit) => x = out.1) (fun _ t => QW E (wX9 E a out.2 tr) t) A) ([.ref (a 0)] : List Value).toArray s 0 0 A) (F0 m 29 ls [.int x23, .int x17, .ref (a 3)]) := by
        intro x23 hf H locs ls hP hD hS hl
        obtain ⟨h24, hf⟩ := chk_in hf
        refine r_iast X hP hD hS 3 (wX9_g0_3 _ _ _ _) h24 (wX9_t0_3 _ _ _ _ _ _) dX9_reads_29 (fun H locs hP hD hS => ?_)
        refine lv_iinc (v := (x17 + 1)) (lv' := [(1, .int (x17 + 1)), (0, .ref (a 0))]) hx hb dX9_reads_30 hl (k := 1) rfl rfl (by decide) rfl (fun ls hl => ?_)
        refine lv_goto (tgt := 2) hx hb dX9_reads_33 (by decide) ?_
        exact ih20 (x17 + 1) (sg_st g18 3 (x17 : Int32).toNatClampNeg x23) hf H locs ls hP hD hS (lv_sub hl [1, 0] rfl)
      refine lv_if_eq (tgt := 28) hx hb dX9_reads_21 (by decide) (fun c25 => ?_) (fun c25 => ?_)
      · have hf := (if_pos c25).symm.trans hf
        refine lv_iconst (v := 0) hx hb dX9_reads_28 (by decide) ?_
        exact J2 0 hf H locs ls hP hD hS (lv_sub hl [0, 1] rfl)
      · have hf := (if_neg c25).symm.trans hf
        refine lv_iconst (v := 1) hx hb dX9_reads_24 (by decide) ?_
        refine lv_goto (tgt := 29) hx hb dX9_reads_25 (by decide) ?_
        exact J2 1 hf H locs ls hP hD hS (lv_sub hl [0, 1] rfl))
  exact L20 1000 0 σ hf H locs ls hP hD hS (lv_sub hl [1, 0] rfl)
def rm_X9_map : Room := { frames := 7, cells := 0, slots := 0, locals := 151 }
theorem pv_X9_map : PkV RX9 yX9_map cX9_map 2 (some .int) 0 := ⟨im_X9_map, se_X9_map, ini_X9, cd_X9_map, by decide +kernel⟩
set_option maxHeartbeats 4000000 in
set_option maxRecDepth 100000 in
theorem c_X9_map (l : Launch) (E : Ev) (a : Nat → Nat) (σ : Sg) (tr : Int64) {out : Int32 × Sg} (hf : f_X9_map σ tr = some out) : MtI l yX9_map (wl yX9_map cX9_map 2 (some .int)) rm_X9_map E [.ref (a 0)] (wX9 E a σ tr) out.1 (wX9 E a out.2 tr) := by
  refine mt_of (QQ := (fun A => va_Qi (fun x (_ : Unit) => x = out.1) (fun _ t => QW E (wX9 E a out.2 tr) t) A)) (by decide) (Nat.le_of_ble_eq_true rfl) (fun p e s m below meth c A ls X hr hP hD hS hl => ?_)
  have hx := X.1.1
  have hb := X.1.2.1
  have hl : lv_has ls 2 [(0, .ref (a 0))] := hl
  obtain ⟨H, hHe⟩ : ∃ H : Heap, H = s.heap := ⟨_, rfl⟩
  obtain ⟨locs, hLe⟩ : ∃ locs : List Loc, locs = [] := ⟨_, rfl⟩
  have hP : va_P E.1 vwCl (wX9 E a σ tr) H := by rw [hHe]; exact hP
  have hS : va_S A s.heap H locs := by rw [hHe, hLe]; exact hS
  rw [← hLe, show W p l e rm_X9_map s m ([.ref (a 0)] : List Value).toArray below meth c s.heap locs 0 0 = W p l e rm_X9_map s m ([.ref (a 0)] : List Value).toArray below meth c H locs 0 0 from by rw [hHe]]
  refine lv_aload_n hx hb dX9_map_0 rfl (lv_at hl 0 rfl) ?_
  obtain ⟨z1, hz1, hf⟩ := obd hf
  refine cV_allI X (As := []) (rest := []) (c_X9_reads l E a σ tr hz1) pv_X9_reads ml_X9_47 ⟨rfl, rfl⟩ ⟨(Nat.le_of_ble_eq_true rfl), (Nat.le_of_ble_eq_true rfl)⟩ hP hD hS (wX9_g0_0 _ _ _ _) rfl (wX9_adr _ _ _ _ _ _) rfl hl.1 rfl (Nat.le_of_ble_eq_true rfl) dX9_map_1 ⟨Nat.le_refl _, Nat.le_refl _⟩ (fun H locs hP hD hS => ?_)
  refine lv_if_ne (tgt := 15) hx hb dX9_map_4 (by decide) (fun c2 => ?_) (fun c2 => ?_)
  · have hf := (if_neg c2).symm.trans hf
    refine lv_iconst (v := 0) hx hb dX9_map_15 (by decide) ?_
    refine lv_istore_n (lv' := [(1, .int 0), (0, .ref (a 0))]) hx hb dX9_map_16 rfl hl (by decide) rfl (fun ls hl => ?_)
    have L5 := lc2_ind (o := out) (step := (s_X9_map_17)) (fun x3 g4 => ∀ (H : Heap) (locs : List Loc) (ls : Array Slot), va_P E.1 vwCl (wX9 E a g4 tr) H → va_D A (wX9 E a g4 tr) → va_S A s.heap H locs → lv_has ls 2 [(0, .ref (a 0)), (1, .int x3)] → W p l e rm_X9_map s m ([.ref (a 0)] : List Value).toArray below meth c H locs 0 0 (MQ below (va_Qi (fun x (_ : Unit) => x = out.1) (fun _ t => QW E (wX9 E a out.2 tr) t) A) ([.ref (a 0)] : List Value).toArray s 0 0 A) (F0 m 17 ls [])) (fun x3 g4 k5 ih5 hf H locs ls hP hD hS hl => by
      refine lv_iload_n hx hb dX9_map_17 rfl (lv_at hl 1 rfl) ?_
      refine lv_bipush (v := 35) hx hb dX9_map_18 (by decide) ?_
      refine lv_icmp_ge (tgt := 41) hx hb dX9_map_20 (by decide) (fun c6 => ?_) (fun c6 => ?_)
      · have hf := (if_pos c6).symm.trans hf
        refine lv_iconst (v := 0) hx hb dX9_map_41 (by decide) ?_
        refine lv_istore_n (lv' := [(1, .int 0), (0, .ref (a 0))]) hx hb dX9_map_42 rfl hl (by decide) rfl (fun ls hl => ?_)
        have J1 : ∀ (g7 : Sg), j_X9_map_1 g7 = some out → ∀ (H : Heap) (locs : List Loc) (ls : Array Slot), va_P E.1 vwCl (wX9 E a g7 tr) H → va_D A (wX9 E a g7 tr) → va_S A s.heap H locs → lv_has ls 2 [(0, .ref (a 0))] → W p l e rm_X9_map s m ([.ref (a 0)] : List Value).toArray below meth c H locs 0 0 (MQ below (va_Qi (fun x (_ : Unit) => x = out.1) (fun _ t => QW E (wX9 E a out.2 tr) t) A) ([.ref (a 0)] : List Value).toArray s 0 0 A) (F0 m 62 ls []) := by
          intro g7 hf H locs ls hP hD hS hl
          refine lv_aload_n hx hb dX9_map_62 rfl (lv_at hl 0 rfl) ?_
          refine r_get X hP 0 (wX9_g0_0 _ _ _ _) rfl inc_X9 7 (by decide) fl_X9_25 rfl dX9_map_63 ?_
          refine lv_iconst (v := 0) hx hb dX9_map_66 (by decide) ?_
          refine lv_iconst (v := 0) hx hb dX9_map_67 (by decide) ?_
          obtain ⟨h8, hf⟩ := chk_in hf
          refine r_zast X hP hD hS 6 (wX9_g0_6 _ _ _ _) h8 (wX9_t0_6 _ _ _ _ _ _) dX9_map_68 (fun H locs hP hD hS => ?_)
          refine lv_aload_n hx hb dX9_map_69 rfl (lv_at hl 0 rfl) ?_
          refine r_get X hP 0 (wX9_g0_0 _ _ _ _) rfl inc_X9 7 (by decide) fl_X9_25 rfl dX9_map_70 ?_
          refine lv_iconst (v := 1) hx hb dX9_map_73 (by decide) ?_
          refine lv_iconst (v := 0) hx hb dX9_map_74 (by decide) ?_
          obtain ⟨h9, hf⟩ := chk_in hf
          refine r_zast X hP hD hS 6 (wX9_g0_6 _ _ _ _) h9 (wX9_t0_6 _ _ _ _ _ _) dX9_map_75 (fun H locs hP hD hS => ?_)
          refine lv_aload_n hx hb dX9_map_76 rfl (lv_at hl 0 rfl) ?_
          refine lv_iconst (v := 0) hx hb dX9_map_77 (by decide) ?_
          refine r_put X hP hD hS 0 (wX9_g0_0 _ _ _ _) rfl inc_X9 tyX9 tyX9_ok nmX9 10 (by decide) fl_X9_126 rfl (ty := .int) rfl rfl rfl (Nat.le_of_ble_eq_true rfl) (wX9_s0_0_10 _ _ _ _ _) dX9_map_78 (fun H locs hP hD hS => ?_)
          refine lv_aload_n hx hb dX9_map_81 rfl (lv_at hl 0 rfl) ?_
          refine lv_iconst (v := 0) hx hb dX9_map_82 (by decide) ?_
          refine r_put X hP hD hS 0 (wX9_g0_0 _ _ _ _) rfl inc_X9 tyX9 tyX9_ok nmX9 2 (by decide) fl_X9_63 rfl (ty := .int) rfl rfl rfl (Nat.le_of_ble_eq_true rfl) (wX9_s0_0_2 _ _ _ _ _) dX9_map_83 (fun H locs hP hD hS => ?_)
          refine lv_aload_n hx hb dX9_map_86 rfl (lv_at hl 0 rfl) ?_
          refine r_get X hP 0 (wX9_g0_0 _ _ _ _) rfl inc_X9 3 (by decide) fl_X9_13 rfl dX9_map_87 ?_
          refine lv_iconst (v := 4) hx hb dX9_map_90 (by decide) ?_
          obtain ⟨h10, hf⟩ := chk_in hf
          refine r_iald X hP 2 (wX9_g0_2 _ _ _ _) h10 dX9_map_91 ?_
          have ho := Option.some.inj hf
          have hv : ((sg_st (sg_st (sg_st (sg_st g7 6 (0 : Int32).toNatClampNeg (vp_nar .boolean 0)) 6 (1 : Int32).toNatClampNeg (vp_nar .boolean 0)) 0 10 0) 0 2 0) 2 (4 : Int32).toNatClampNeg) = out.1 := by rw [← ho]
          have hw := congrArg (fun o : Int32 × Sg => (wX9 E a o.2 tr)) ho
          exact r_iret X hr hP hS hv hw dX9_map_92
        have L14 := lc2_ind (o := out) (step := (s_X9_map_43 j_X9_map_1)) (fun x11 g12 => ∀ (H : Heap) (locs : List Loc) (ls : Array Slot), va_P E.1 vwCl (wX9 E a g12 tr) H → va_D A (wX9 E a g12 tr) → va_S A s.heap H locs → lv_has ls 2 [(0, .ref (a 0)), (1, .int x11)] → W p l e rm_X9_map s m ([.ref (a 0)] : List Value).toArray below meth c H locs 0 0 (MQ below (va_Qi (fun x (_ : Unit) => x = out.1) (fun _ t => QW E (wX9 E a out.2 tr) t) A) ([.ref (a 0)] : List Value).toArray s 0 0 A) (F0 m 43 ls [])) (fun x11 g12 k13 ih14 hf H locs ls hP hD hS hl => by
          refine lv_iload_n hx hb dX9_map_43 rfl (lv_at hl 1 rfl) ?_
          refine lv_bipush (v := 40) hx hb dX9_map_44 (by decide) ?_
          refine lv_icmp_ge (tgt := 62) hx hb dX9_map_46 (by decide) (fun c15 => ?_) (fun c15 => ?_)
          · have hf := (if_pos c15).symm.trans hf
            exact J1 g12 hf H locs ls hP hD hS (lv_sub hl [0] rfl)
          · have hf := (if_neg c15).symm.trans hf
            refine lv_aload_n hx hb dX9_map_49 rfl (lv_at hl 0 rfl) ?_
            refine r_get X hP 0 (wX9_g0_0 _ _ _ _) rfl inc_X9 5 (by decide) fl_X9_19 rfl dX9_map_50 ?_
            refine lv_iload_n hx hb dX9_map_53 rfl (lv_at hl 1 rfl) ?_
            refine lv_iconst (v := 0) hx hb dX9_map_54 (by decide) ?_
            obtain ⟨h16, hf⟩ := chk_in hf
            refine r_iast X hP hD hS 4 (wX9_g0_4 _ _ _ _) h16 (wX9_t0_4 _ _ _ _ _ _) dX9_map_55 (fun H locs hP hD hS => ?_)
            refine lv_iinc (v := (x11 + 1)) (lv' := [(1, .int (x11 + 1)), (0, .ref (a 0))]) hx hb dX9_map_56 hl (k := 1) rfl rfl (by decide) rfl (fun ls hl => ?_)
            refine lv_goto (tgt := 43) hx hb dX9_map_59 (by decide) ?_
            exact ih14 (x11 + 1) (sg_st g12 4 (x11 : Int32).toNatClampNeg 0) hf H locs ls hP hD hS (lv_sub hl [1, 0] rfl))
        exact L14 1000 0 g4 hf H locs ls hP hD hS (lv_sub hl [1, 0] rfl)
      · have hf := (if_neg c6).symm.trans hf
        refine lv_aload_n hx hb dX9_map_23 rfl (lv_at hl 0 rfl) ?_
        refine r_get X hP 0 (wX9_g0_0 _ _ _ _) rfl inc_X9 3 (by decide) fl_X9_13 rfl dX9_map_24 ?_
        refine lv_iload_n hx hb dX9_map_27 rfl (lv_at hl 1 rfl) ?_
        refine lv_aload_n hx hb dX9_map_28 rfl (lv_at hl 0 rfl) ?_
        refine r_get X hP 0 (wX9_g0_0 _ _ _ _) rfl inc_X9 4 (by decide) fl_X9_16 rfl dX9_map_29 ?_
        refine lv_iload_n hx hb dX9_map_32 rfl (lv_at hl 1 rfl) ?_
        obtain ⟨h17, hf⟩ := chk_in hf
        refine r_iald X hP 3 (wX9_g0_3 _ _ _ _) h17 dX9_map_33 ?_
        obtain ⟨h18, hf⟩ := chk_in hf
        refine r_iast X hP hD hS 2 (wX9_g0_2 _ _ _ _) h18 (wX9_t0_2 _ _ _ _ _ _) dX9_map_34 (fun H locs hP hD hS => ?_)
        refine lv_iinc (v := (x3 + 1)) (lv' := [(1, .int (x3 + 1)), (0, .ref (a 0))]) hx hb dX9_map_35 hl (k := 1) rfl rfl (by decide) rfl (fun ls hl => ?_)
        refine lv_goto (tgt := 17) hx hb dX9_map_38 (by decide) ?_
        exact ih5 (x3 + 1) (sg_st g4 2 (x3 : Int32).toNatClampNeg (g4 3 (x3 : Int32).toNatClampNeg)) hf H locs ls hP hD hS (lv_sub hl [1, 0] rfl))
    exact L5 1000 0 z1.2 hf H locs ls hP hD hS (lv_sub hl [1, 0] rfl)
  · have hf := (if_pos c2).symm.trans hf
    refine lv_bipush (v := (-10)) hx hb dX9_map_7 (by decide) ?_
    refine lv_aload_n hx hb dX9_map_9 rfl (lv_at hl 0 rfl) ?_
    refine r_get X hP 0 (wX9_g0_0 _ _ _ _) rfl inc_X9 13 (by decide) fl_X9_76 rfl dX9_map_10 ?_
    refine lv_isub hx hb dX9_map_13 ?_
    have ho := Option.some.inj hf
    have hv : ((-10) - (z1.2 0 13)) = out.1 := by rw [← ho]
    have hw := congrArg (fun o : Int32 × Sg => (wX9 E a o.2 tr)) ho
    exact r_iret X hr hP hS hv hw dX9_map_14
def rm_X9_member : Room := { frames := 0, cells := 0, slots := 0, locals := 0 }
theorem ps_X9_member : PkS yX9_member cX9_member 5 (some .int) 3 := ⟨sm_X9_member, ini_X9, cd_X9_member, by decide +kernel⟩
set_option maxHeartbeats 4000000 in
set_option maxRecDepth 100000 in
theorem c_X9_member (l : Launch) (E : Ev) (p1 : Int32) (p2 : Int32) (p3 : Int32) {out : Int32} (hf : f_X9_member p1 p2 p3 = some out) : MtI l yX9_member (wl yX9_member cX9_member 5 (some .int)) rm_X9_member E [.int p1, .int p2, .int p3] ([] : va_W) out ([] : va_W) := by
  refine mt_of (QQ := (fun A => va_Qi (fun x (_ : Unit) => x = out) (fun _ t => QW E ([] : va_W) t) A)) (by decide) (Nat.le_of_ble_eq_true rfl) (fun p e s m below meth c A ls X hr hP hD hS hl => ?_)
  have hx := X.1.1
  have hb := X.1.2.1
  have hl : lv_has ls 5 [(0, .int p1), (1, .int p2), (2, .int p3)] := hl
  obtain ⟨H, hHe⟩ : ∃ H : Heap, H = s.heap := ⟨_, rfl⟩
  obtain ⟨locs, hLe⟩ : ∃ locs : List Loc, locs = [] := ⟨_, rfl⟩
  have hP : va_P E.1 vwCl ([] : va_W) H := by rw [hHe]; exact hP
  have hS : va_S A s.heap H locs := by rw [hHe, hLe]; exact hS
  rw [← hLe, show W p l e rm_X9_member s m ([.int p1, .int p2, .int p3] : List Value).toArray below meth c s.heap locs 0 0 = W p l e rm_X9_member s m ([.int p1, .int p2, .int p3] : List Value).toArray below meth c H locs 0 0 from by rw [hHe]]
  refine lv_iload_n hx hb dX9_member_0 rfl (lv_at hl 0 rfl) ?_
  refine lv_istore_n (lv' := [(3, .int p1), (0, .int p1), (1, .int p2), (2, .int p3)]) hx hb dX9_member_1 rfl hl (by decide) rfl (fun ls hl => ?_)
  refine lv_iload_n hx hb dX9_member_2 rfl (lv_at hl 2 rfl) ?_
  refine lv_iconst (v := 1) hx hb dX9_member_3 (by decide) ?_
  refine lv_isub hx hb dX9_member_4 ?_
  refine lv_istore (lv' := [(4, .int (p2 - 1)), (3, .int p1), (0, .int p1), (1, .int p2), (2, .int p3)]) hx hb dX9_member_5 hl (by decide) rfl (fun ls hl => ?_)
  have J1 : ∀ (x1 : Int32), j_X9_member_1 p2 p3 x1 = some out → ∀ (H : Heap) (locs : List Loc) (ls : Array Slot), va_P E.1 vwCl ([] : va_W) H → va_D A ([] : va_W) → va_S A s.heap H locs → lv_has ls 5 [(1, .int p2), (2, .int p3), (3, .int x1)] → W p l e rm_X9_member s m ([.int p1, .int p2, .int p3] : List Value).toArray below meth c H locs 0 0 (MQ below (va_Qi (fun x (_ : Unit) => x = out) (fun _ t => QW E ([] : va_W) t) A) ([.int p1, .int p2, .int p3] : List Value).toArray s 0 0 A) (F0 m 24 ls []) := by
    intro x1 hf H locs ls hP hD hS hl
    refine lv_iload_n hx hb dX9_member_24 rfl (lv_at hl 1 rfl) ?_
    refine lv_iload_n hx hb dX9_member_25 rfl (lv_at hl 0 rfl) ?_
    refine lv_icmp_ge (tgt := 36) hx hb dX9_member_26 (by decide) (fun c2 => ?_) (fun c2 => ?_)
    · have hf := (if_pos c2).symm.trans hf
      refine lv_bipush (v := (-5)) hx hb dX9_member_36 (by decide) ?_
      have ho := Option.some.inj hf
      exact r_iret X hr hP hS ho rfl dX9_member_38
    · have hf := (if_neg c2).symm.trans hf
      refine lv_iload_n hx hb dX9_member_29 rfl (lv_at hl 2 rfl) ?_
      refine lv_bipush (v := 32) hx hb dX9_member_30 (by decide) ?_
      refine lv_irem hx hb dX9_member_32 (by decide) ?_
      refine lv_goto (tgt := 38) hx hb dX9_member_33 (by decide) ?_
      have ho := Option.some.inj hf
      exact r_iret X hr hP hS ho rfl dX9_member_38
  have L6 := lc2_ind (o := out) (step := (s_X9_member_7 p3 (j_X9_member_1 p2 p3))) (fun x3 x4 => ∀ (H : Heap) (locs : List Loc) (ls : Array Slot), va_P E.1 vwCl ([] : va_W) H → va_D A ([] : va_W) → va_S A s.heap H locs → lv_has ls 5 [(1, .int p2), (2, .int p3), (3, .int x3), (4, .int x4)] → W p l e rm_X9_member s m ([.int p1, .int p2, .int p3] : List Value).toArray below meth c H locs 0 0 (MQ below (va_Qi (fun x (_ : Unit) => x = out) (fun _ t => QW E ([] : va_W) t) A) ([.int p1, .int p2, .int p3] : List Value).toArray s 0 0 A) (F0 m 7 ls [])) (fun x3 x4 k5 ih6 hf H locs ls hP hD hS hl => by
    refine lv_iload hx hb dX9_member_7 (lv_at hl 3 rfl) ?_
    refine lv_iload_n hx hb dX9_member_9 rfl (lv_at hl 1 rfl) ?_
    refine lv_icmp_le (tgt := 24) hx hb dX9_member_10 (by decide) (fun c7 => ?_) (fun c7 => ?_)
    · have hf := (if_pos c7).symm.trans hf
      exact J1 x3 hf H locs ls hP hD hS (lv_sub hl [0, 1, 2] rfl)
    · have hf := (if_neg c7).symm.trans hf
      refine lv_iload_n hx hb dX9_member_13 rfl (lv_at hl 2 rfl) ?_
      refine lv_bipush (v := 32) hx hb dX9_member_14 (by decide) ?_
      refine lv_idiv hx hb dX9_member_16 (by decide) ?_
      refine lv_istore_n (lv' := [(3, .int (x3 / 32)), (1, .int p2), (2, .int p3), (4, .int x4)]) hx hb dX9_member_17 rfl hl (by decide) rfl (fun ls hl => ?_)
      refine lv_iinc (v := (x4 + (-1))) (lv' := [(4, .int (x4 + (-1))), (3, .int (x3 / 32)), (1, .int p2), (2, .int p3)]) hx hb dX9_member_18 hl (k := 3) rfl rfl (by decide) rfl (fun ls hl => ?_)
      refine lv_goto (tgt := 7) hx hb dX9_member_21 (by decide) ?_
      exact ih6 (x3 / 32) (x4 + (-1)) hf H locs ls hP hD hS (lv_sub hl [2, 3, 1, 0] rfl))
  exact L6 1000 p1 (p2 - 1) hf H locs ls hP hD hS (lv_sub hl [3, 4, 1, 0] rfl)
def rm_X9_packet : Room := { frames := 4, cells := 0, slots := 0, locals := 103 }
theorem pv_X9_packet : PkV RX9 yX9_packet cX9_packet 6 (some .int) 1 := ⟨im_X9_packet, se_X9_packet, ini_X9, cd_X9_packet, by decide +kernel⟩
set_option maxHeartbeats 4000000 in
set_option maxRecDepth 100000 in
theorem c_X9_packet (l : Launch) (E : Ev) (a : Nat → Nat) (σ : Sg) (tr : Int64) (p1 : Int32) {out : Int32 × Sg} (hf : f_X9_packet σ tr p1 = some out) : MtI l yX9_packet (wl yX9_packet cX9_packet 6 (some .int)) rm_X9_packet E [.ref (a 0), .int p1] (wX9 E a σ tr) out.1 (wX9 E a out.2 tr) := by
  refine mt_of (QQ := (fun A => va_Qi (fun x (_ : Unit) => x = out.1) (fun _ t => QW E (wX9 E a out.2 tr) t) A)) (by decide) (Nat.le_of_ble_eq_true rfl) (fun p e s m below meth c A ls X hr hP hD hS hl => ?_)
  have hx := X.1.1
  have hb := X.1.2.1
  have hl : lv_has ls 6 [(0, .ref (a 0)), (1, .int p1)] := hl
  obtain ⟨H, hHe⟩ : ∃ H : Heap, H = s.heap := ⟨_, rfl⟩
  obtain ⟨locs, hLe⟩ : ∃ locs : List Loc, locs = [] := ⟨_, rfl⟩
  have hP : va_P E.1 vwCl (wX9 E a σ tr) H := by rw [hHe]; exact hP
  have hS : va_S A s.heap H locs := by rw [hHe, hLe]; exact hS
  rw [← hLe, show W p l e rm_X9_packet s m ([.ref (a 0), .int p1] : List Value).toArray below meth c s.heap locs 0 0 = W p l e rm_X9_packet s m ([.ref (a 0), .int p1] : List Value).toArray below meth c H locs 0 0 from by rw [hHe]]
  refine lv_iload_n hx hb dX9_packet_0 rfl (lv_at hl 1 rfl) ?_
  refine lv_iconst (v := 0) hx hb dX9_packet_1 (by decide) ?_
  refine lv_iconst (v := 4) hx hb dX9_packet_2 (by decide) ?_
  obtain ⟨z1, hz1, hf⟩ := obd hf
  refine cS_roI X (As := [.int p1, .int 0, .int 4]) (rest := []) (c_X9_in l E p1 0 4 hz1) ps_X9_in ml_X9_55 ⟨rfl, rfl⟩ ⟨(Nat.le_of_ble_eq_true rfl), (Nat.le_of_ble_eq_true rfl)⟩ hP hD hS (is := []) (wc := []) rfl rfl rfl hl.1 rfl (Nat.le_of_ble_eq_true rfl) dX9_packet_3 ⟨Nat.le_refl _, Nat.le_refl _⟩ (fun H locs hP hS => ?_)
  refine lv_if_ne (tgt := 11) hx hb dX9_packet_6 (by decide) (fun c2 => ?_) (fun c2 => ?_)
  · have hf := (if_neg c2).symm.trans hf
    refine lv_aload_n hx hb dX9_packet_11 rfl (lv_at hl 0 rfl) ?_
    refine lv_aload_n hx hb dX9_packet_12 rfl (lv_at hl 0 rfl) ?_
    refine r_get X hP 0 (wX9_g0_0 _ _ _ _) rfl inc_X9 5 (by decide) fl_X9_19 rfl dX9_packet_13 ?_
    refine lv_iconst (v := 1) hx hb dX9_packet_16 (by decide) ?_
    obtain ⟨h3, hf⟩ := chk_in hf
    refine r_iald X hP 4 (wX9_g0_4 _ _ _ _) h3 dX9_packet_17 ?_
    obtain ⟨z4, hz4, hf⟩ := obd hf
    refine cV_allV X (As := [.int (σ 4 (1 : Int32).toNatClampNeg)]) (rest := []) (c_X9_now l E a σ tr (σ 4 (1 : Int32).toNatClampNeg) hz4) pv_X9_now ml_X9_148 ⟨rfl, rfl⟩ ⟨(Nat.le_of_ble_eq_true rfl), (Nat.le_of_ble_eq_true rfl)⟩ hP hD hS (wX9_g0_0 _ _ _ _) rfl (wX9_adr _ _ _ _ _ _) rfl hl.1 rfl (Nat.le_of_ble_eq_true rfl) dX9_packet_18 ⟨Nat.le_refl _, Nat.le_refl _⟩ (fun H locs hP hD hS => ?_)
    refine lv_iconst (v := 0) hx hb dX9_packet_21 (by decide) ?_
    refine lv_istore_n (lv' := [(2, .int 0), (0, .ref (a 0)), (1, .int p1)]) hx hb dX9_packet_22 rfl hl (by decide) rfl (fun ls hl => ?_)
    refine lv_iconst (v := 0) hx hb dX9_packet_23 (by decide) ?_
    refine lv_istore_n (lv' := [(3, .int 0), (2, .int 0), (0, .ref (a 0)), (1, .int p1)]) hx hb dX9_packet_24 rfl hl (by decide) rfl (fun ls hl => ?_)
    have L7 := lc2_ind (o := out) (step := (s_X9_packet_25 tr p1 z4)) (fun x5 x6 => ∀ (H : Heap) (locs : List Loc) (ls : Array Slot), va_P E.1 vwCl (wX9 E a z4 tr) H → va_D A (wX9 E a z4 tr) → va_S A s.heap H locs → lv_has ls 6 [(0, .ref (a 0)), (1, .int p1), (2, .int x5), (3, .int x6)] → W p l e rm_X9_packet s m ([.ref (a 0), .int p1] : List Value).toArray below meth c H locs 0 0 (MQ below (va_Qi (fun x (_ : Unit) => x = out.1) (fun _ t => QW E (wX9 E a out.2 tr) t) A) ([.ref (a 0), .int p1] : List Value).toArray s 0 0 A) (F0 m 25 ls [])) (fun x5 x6 k7 ih7 hf H locs ls hP hD hS hl => by
      refine lv_iload_n hx hb dX9_packet_25 rfl (lv_at hl 3 rfl) ?_
      refine lv_aload_n hx hb dX9_packet_26 rfl (lv_at hl 0 rfl) ?_
      refine r_get X hP 0 (wX9_g0_0 _ _ _ _) rfl inc_X9 3 (by decide) fl_X9_13 rfl dX9_packet_27 ?_
      refine lv_iconst (v := 3) hx hb dX9_packet_30 (by decide) ?_
      obtain ⟨h8, hf⟩ := chk_in hf
      refine r_iald X hP 2 (wX9_g0_2 _ _ _ _) h8 dX9_packet_31 ?_
      refine lv_icmp_ge (tgt := 76) hx hb dX9_packet_32 (by decide) (fun c9 => ?_) (fun c9 => ?_)
      · have hf := (if_pos c9).symm.trans hf
        refine lv_iconst (v := 0) hx hb dX9_packet_76 (by decide) ?_
        refine lv_istore_n (lv' := [(3, .int 0), (0, .ref (a 0)), (1, .int p1), (2, .int x5)]) hx hb dX9_packet_77 rfl hl (by decide) rfl (fun ls hl => ?_)
        refine lv_iconst (v := 0) hx hb dX9_packet_78 (by decide) ?_
        refine lv_istore (lv' := [(4, .int 0), (3, .int 0), (0, .ref (a 0)), (1, .int p1), (2, .int x5)]) hx hb dX9_packet_79 hl (by decide) rfl (fun ls hl => ?_)
        have J1 : ∀ (x10 : Int32), j_X9_packet_1 tr p1 z4 x5 x10 = some out → ∀ (H : Heap) (locs : List Loc) (ls : Array Slot), va_P E.1 vwCl (wX9 E a z4 tr) H → va_D A (wX9 E a z4 tr) → va_S A s.heap H locs → lv_has ls 6 [(0, .ref (a 0)), (1, .int p1), (2, .int x5), (3, .int x10)] → W p l e rm_X9_packet s m ([.ref (a 0), .int p1] : List Value).toArray below meth c H locs 0 0 (MQ below (va_Qi (fun x (_ : Unit) => x = out.1) (fun _ t => QW E (wX9 E a out.2 tr) t) A) ([.ref (a 0), .int p1] : List Value).toArray s 0 0 A) (F0 m 133 ls []) := by
          intro x10 hf H locs ls hP hD hS hl
          refine lv_iload_n hx hb dX9_packet_133 rfl (lv_at hl 1 rfl) ?_
          refine lv_iconst (v := 2) hx hb dX9_packet_134 (by decide) ?_
          refine lv_icmp_ge (tgt := 147) hx hb dX9_packet_135 (by decide) (fun c11 => ?_) (fun c11 => ?_)
          · have hf := (if_pos c11).symm.trans hf
            refine lv_iload_n hx hb dX9_packet_147 rfl (lv_at hl 1 rfl) ?_
            refine lv_iconst (v := 2) hx hb dX9_packet_148 (by decide) ?_
            refine lv_icmp_ne (tgt := 159) hx hb dX9_packet_149 (by decide) (fun c12 => ?_) (fun c12 => ?_)
            · have hf := (if_neg c12).symm.trans hf
              refine lv_iload_n hx hb dX9_packet_159 rfl (lv_at hl 1 rfl) ?_
              refine lv_iconst (v := 3) hx hb dX9_packet_160 (by decide) ?_
              refine lv_icmp_ne (tgt := 168) hx hb dX9_packet_161 (by decide) (fun c13 => ?_) (fun c13 => ?_)
              · have hf := (if_neg c13).symm.trans hf
                refine lv_iload_n hx hb dX9_packet_168 rfl (lv_at hl 3 rfl) ?_
                have ho := Option.some.inj hf
                have hv : x10 = out.1 := by rw [← ho]
                have hw := congrArg (fun o : Int32 × Sg => (wX9 E a o.2 tr)) ho
                exact r_iret X hr hP hS hv hw dX9_packet_169
              · have hf := (if_pos c13).symm.trans hf
                refine lv_iload_n hx hb dX9_packet_164 rfl (lv_at hl 2 rfl) ?_
                refine lv_goto (tgt := 169) hx hb dX9_packet_165 (by decide) ?_
                have ho := Option.some.inj hf
                have hv : x5 = out.1 := by rw [← ho]
                have hw := congrArg (fun o : Int32 × Sg => (wX9 E a o.2 tr)) ho
                exact r_iret X hr hP hS hv hw dX9_packet_169
            · have hf := (if_pos c12).symm.trans hf
              refine lv_aload_n hx hb dX9_packet_152 rfl (lv_at hl 0 rfl) ?_
              obtain ⟨z14, hz14, hf⟩ := obd hf
              refine cV_allI X (As := []) (rest := []) (c_X9_thick l E a z4 tr hz14) pv_X9_thick ml_X9_164 ⟨rfl, rfl⟩ ⟨(Nat.le_of_ble_eq_true rfl), (Nat.le_of_ble_eq_true rfl)⟩ hP hD hS (wX9_g0_0 _ _ _ _) rfl (wX9_adr _ _ _ _ _ _) rfl hl.1 rfl (Nat.le_of_ble_eq_true rfl) dX9_packet_153 ⟨Nat.le_refl _, Nat.le_refl _⟩ (fun H locs hP hD hS => ?_)
              refine lv_goto (tgt := 169) hx hb dX9_packet_156 (by decide) ?_
              have ho := Option.some.inj hf
              have hv : z14 = out.1 := by rw [← ho]
              have hw := congrArg (fun o : Int32 × Sg => (wX9 E a o.2 tr)) ho
              exact r_iret X hr hP hS hv hw dX9_packet_169
          · have hf := (if_neg c11).symm.trans hf
            refine lv_aload_n hx hb dX9_packet_138 rfl (lv_at hl 0 rfl) ?_
            refine r_get X hP 0 (wX9_g0_0 _ _ _ _) rfl inc_X9 16 (by decide) fl_X9_38 rfl dX9_packet_139 ?_
            refine lv_iload_n hx hb dX9_packet_142 rfl (lv_at hl 1 rfl) ?_
            obtain ⟨h15, hf⟩ := chk_in hf
            refine r_iald X hP 10 (wX9_g0_10 _ _ _ _) h15 dX9_packet_143 ?_
            refine lv_goto (tgt := 169) hx hb dX9_packet_144 (by decide) ?_
            have ho := Option.some.inj hf
            have hv : (z4 10 (p1 : Int32).toNatClampNeg) = out.1 := by rw [← ho]
            have hw := congrArg (fun o : Int32 × Sg => (wX9 E a o.2 tr)) ho
            exact r_iret X hr hP hS hv hw dX9_packet_169
        have L19 := lc2_ind (o := out) (step := (s_X9_packet_81 tr z4 (j_X9_packet_1 tr p1 z4 x5))) (fun x16 x17 => ∀ (H : Heap) (locs : List Loc) (ls : Array Slot), va_P E.1 vwCl (wX9 E a z4 tr) H → va_D A (wX9 E a z4 tr) → va_S A s.heap H locs → lv_has ls 6 [(0, .ref (a 0)), (1, .int p1), (2, .int x5), (3, .int x16), (4, .int x17)] → W p l e rm_X9_packet s m ([.ref (a 0), .int p1] : List Value).toArray below meth c H locs 0 0 (MQ below (va_Qi (fun x (_ : Unit) => x = out.1) (fun _ t => QW E (wX9 E a out.2 tr) t) A) ([.ref (a 0), .int p1] : List Value).toArray s 0 0 A) (F0 m 81 ls [])) (fun x16 x17 k18 ih19 hf H locs ls hP hD hS hl => by
          refine lv_iload hx hb dX9_packet_81 (lv_at hl 4 rfl) ?_
          refine lv_aload_n hx hb dX9_packet_83 rfl (lv_at hl 0 rfl) ?_
          obtain ⟨z20, hz20, hf⟩ := obd hf
          refine cV_allI X (As := []) (rest := [.int x17]) (c_X9_cells l E a z4 tr hz20) pv_X9_cells ml_X9_51 ⟨rfl, rfl⟩ ⟨(Nat.le_of_ble_eq_true rfl), (Nat.le_of_ble_eq_true rfl)⟩ hP hD hS (wX9_g0_0 _ _ _ _) rfl (wX9_adr _ _ _ _ _ _) rfl hl.1 rfl (Nat.le_of_ble_eq_true rfl) dX9_packet_84 ⟨Nat.le_refl _, Nat.le_refl _⟩ (fun H locs hP hD hS => ?_)
          refine lv_icmp_ge (tgt := 133) hx hb dX9_packet_87 (by decide) (fun c21 => ?_) (fun c21 => ?_)
          · have hf := (if_pos c21).symm.trans hf
            exact J1 x16 hf H locs ls hP hD hS (lv_sub hl [0, 1, 2, 3] rfl)
          · have hf := (if_neg c21).symm.trans hf
            refine lv_iconst (v := 0) hx hb dX9_packet_90 (by decide) ?_
            refine lv_istore (lv' := [(5, .int 0), (0, .ref (a 0)), (1, .int p1), (2, .int x5), (3, .int x16), (4, .int x17)]) hx hb dX9_packet_91 hl (by decide) rfl (fun ls hl => ?_)
            have L24 := lc2_ind (o := out) (step := (s_X9_packet_93 tr z4 x17 k18)) (fun x22 x23 => ∀ (H : Heap) (locs : List Loc) (ls : Array Slot), va_P E.1 vwCl (wX9 E a z4 tr) H → va_D A (wX9 E a z4 tr) → va_S A s.heap H locs → lv_has ls 6 [(0, .ref (a 0)), (1, .int p1), (2, .int x5), (3, .int x22), (4, .int x17), (5, .int x23)] → W p l e rm_X9_packet s m ([.ref (a 0), .int p1] : List Value).toArray below meth c H locs 0 0 (MQ below (va_Qi (fun x (_ : Unit) => x = out.1) (fun _ t => QW E (wX9 E a out.2 tr) t) A) ([.ref (a 0), .int p1] : List Value).toArray s 0 0 A) (F0 m 93 ls [])) (fun x22 x23 k24 ih24 hf H locs ls hP hD hS hl => by
              refine lv_iload hx hb dX9_packet_93 (lv_at hl 5 rfl) ?_
              refine lv_iload hx hb dX9_packet_95 (lv_at hl 4 rfl) ?_
              refine lv_icmp_ge (tgt := 127) hx hb dX9_packet_97 (by decide) (fun c25 => ?_) (fun c25 => ?_)
              · have hf := (if_pos c25).symm.trans hf
                refine lv_iinc (v := (x17 + 1)) (lv' := [(4, .int (x17 + 1)), (0, .ref (a 0)), (1, .int p1), (2, .int x5), (3, .int x22), (5, .int x23)]) hx hb dX9_packet_127 hl (k := 4) rfl rfl (by decide) rfl (fun ls hl => ?_)
                refine lv_goto (tgt := 81) hx hb dX9_packet_130 (by decide) ?_
                exact ih19 x22 (x17 + 1) hf H locs ls hP hD hS (lv_sub hl [1, 2, 3, 4, 0] rfl)
              · have hf := (if_neg c25).symm.trans hf
                refine lv_iload_n hx hb dX9_packet_100 rfl (lv_at hl 3 rfl) ?_
                refine lv_aload_n hx hb dX9_packet_101 rfl (lv_at hl 0 rfl) ?_
                refine lv_iconst (v := 0) hx hb dX9_packet_102 (by decide) ?_
                refine lv_iload hx hb dX9_packet_103 (lv_at hl 4 rfl) ?_
                refine lv_iload hx hb dX9_packet_105 (lv_at hl 5 rfl) ?_
                obtain ⟨z26, hz26, hf⟩ := obd hf
                refine cV_allI X (As := [.int 0, .int x17, .int x23]) (rest := [.int x22]) (c_X9_touches l E a z4 tr 0 x17 x23 hz26) pv_X9_touches ml_X9_144 ⟨rfl, rfl⟩ ⟨(Nat.le_of_ble_eq_true rfl), (Nat.le_of_ble_eq_true rfl)⟩ hP hD hS (wX9_g0_0 _ _ _ _) rfl (wX9_adr _ _ _ _ _ _) rfl hl.1 rfl (Nat.le_of_ble_eq_true rfl) dX9_packet_107 ⟨Nat.le_refl _, Nat.le_refl _⟩ (fun H locs hP hD hS => ?_)
                refine lv_iconst (v := 1) hx hb dX9_packet_110 (by decide) ?_
                have J2 : ∀ (x27 : Int32), j_X9_packet_2 x22 x23 k24 x27 = some out → ∀ (H : Heap) (locs : List Loc) (ls : Array Slot), va_P E.1 vwCl (wX9 E a z4 tr) H → va_D A (wX9 E a z4 tr) → va_S A s.heap H locs → lv_has ls 6 [(0, .ref (a 0)), (1, .int p1), (2, .int x5), (4, .int x17), (5, .int x23)] → W p l e rm_X9_packet s m ([.ref (a 0), .int p1] : List Value).toArray below meth c H locs 0 0 (MQ below (va_Qi (fun x (_ : Unit) => x = out.1) (fun _ t => QW E (wX9 E a out.2 tr) t) A) ([.ref (a 0), .int p1] : List Value).toArray s 0 0 A) (F0 m 119 ls [.int x27, .int x22]) := by
                  intro x27 hf H locs ls hP hD hS hl
                  refine lv_iadd hx hb dX9_packet_119 ?_
                  refine lv_istore_n (lv' := [(3, .int (x22 + x27)), (0, .ref (a 0)), (1, .int p1), (2, .int x5), (4, .int x17), (5, .int x23)]) hx hb dX9_packet_120 rfl hl (by decide) rfl (fun ls hl => ?_)
                  refine lv_iinc (v := (x23 + 1)) (lv' := [(5, .int (x23 + 1)), (3, .int (x22 + x27)), (0, .ref (a 0)), (1, .int p1), (2, .int x5), (4, .int x17)]) hx hb dX9_packet_121 hl (k := 5) rfl rfl (by decide) rfl (fun ls hl => ?_)
                  refine lv_goto (tgt := 93) hx hb dX9_packet_124 (by decide) ?_
                  exact ih24 (x22 + x27) (x23 + 1) hf H locs ls hP hD hS (lv_sub hl [2, 3, 4, 1, 5, 0] rfl)
                refine lv_icmp_ne (tgt := 118) hx hb dX9_packet_111 (by decide) (fun c28 => ?_) (fun c28 => ?_)
                · have hf := (if_neg c28).symm.trans hf
                  refine lv_iconst (v := 0) hx hb dX9_packet_118 (by decide) ?_
                  exact J2 0 hf H locs ls hP hD hS (lv_sub hl [0, 1, 2, 4, 5] rfl)
                · have hf := (if_pos c28).symm.trans hf
                  refine lv_iconst (v := 1) hx hb dX9_packet_114 (by decide) ?_
                  refine lv_goto (tgt := 119) hx hb dX9_packet_115 (by decide) ?_
                  exact J2 1 hf H locs ls hP hD hS (lv_sub hl [0, 1, 2, 4, 5] rfl))
            exact L24 1000 x16 0 hf H locs ls hP hD hS (lv_sub hl [1, 2, 3, 4, 5, 0] rfl))
        exact L19 1000 0 0 hf H locs ls hP hD hS (lv_sub hl [2, 3, 4, 1, 0] rfl)
      · have hf := (if_neg c9).symm.trans hf
        refine lv_iload_n hx hb dX9_packet_35 rfl (lv_at hl 2 rfl) ?_
        refine lv_aload_n hx hb dX9_packet_36 rfl (lv_at hl 0 rfl) ?_
        refine lv_iconst (v := 0) hx hb dX9_packet_37 (by decide) ?_
        refine lv_aload_n hx hb dX9_packet_38 rfl (lv_at hl 0 rfl) ?_
        refine r_get X hP 0 (wX9_g0_0 _ _ _ _) rfl inc_X9 3 (by decide) fl_X9_13 rfl dX9_packet_39 ?_
        refine lv_bipush (v := 22) hx hb dX9_packet_42 (by decide) ?_
        refine lv_iload_n hx hb dX9_packet_44 rfl (lv_at hl 3 rfl) ?_
        refine lv_iadd hx hb dX9_packet_45 ?_
        obtain ⟨h29, hf⟩ := chk_in hf
        refine r_iald X hP 2 (wX9_g0_2 _ _ _ _) h29 dX9_packet_46 ?_
        refine lv_aload_n hx hb dX9_packet_47 rfl (lv_at hl 0 rfl) ?_
        refine r_get X hP 0 (wX9_g0_0 _ _ _ _) rfl inc_X9 3 (by decide) fl_X9_13 rfl dX9_packet_48 ?_
        refine lv_bipush (v := 28) hx hb dX9_packet_51 (by decide) ?_
        refine lv_iload_n hx hb dX9_packet_53 rfl (lv_at hl 3 rfl) ?_
        refine lv_iadd hx hb dX9_packet_54 ?_
        obtain ⟨h30, hf⟩ := chk_in hf
        refine r_iald X hP 2 (wX9_g0_2 _ _ _ _) h30 dX9_packet_55 ?_
        obtain ⟨z31, hz31, hf⟩ := obd hf
        refine cV_allI X (As := [.int 0, .int (z4 2 ((22 + x6) : Int32).toNatClampNeg), .int (z4 2 ((28 + x6) : Int32).toNatClampNeg)]) (rest := [.int x5]) (c_X9_touches l E a z4 tr 0 (z4 2 ((22 + x6) : Int32).toNatClampNeg) (z4 2 ((28 + x6) : Int32).toNatClampNeg) hz31) pv_X9_touches ml_X9_144 ⟨rfl, rfl⟩ ⟨(Nat.le_of_ble_eq_true rfl), (Nat.le_of_ble_eq_true rfl)⟩ hP hD hS (wX9_g0_0 _ _ _ _) rfl (wX9_adr _ _ _ _ _ _) rfl hl.1 rfl (Nat.le_of_ble_eq_true rfl) dX9_packet_56 ⟨Nat.le_refl _, Nat.le_refl _⟩ (fun H locs hP hD hS => ?_)
        refine lv_iconst (v := 1) hx hb dX9_packet_59 (by decide) ?_
        have J3 : ∀ (x32 : Int32), j_X9_packet_3 x5 x6 k7 x32 = some out → ∀ (H : Heap) (locs : List Loc) (ls : Array Slot), va_P E.1 vwCl (wX9 E a z4 tr) H → va_D A (wX9 E a z4 tr) → va_S A s.heap H locs → lv_has ls 6 [(0, .ref (a 0)), (1, .int p1), (3, .int x6)] → W p l e rm_X9_packet s m ([.ref (a 0), .int p1] : List Value).toArray below meth c H locs 0 0 (MQ below (va_Qi (fun x (_ : Unit) => x = out.1) (fun _ t => QW E (wX9 E a out.2 tr) t) A) ([.ref (a 0), .int p1] : List Value).toArray s 0 0 A) (F0 m 68 ls [.int x32, .int x5]) := by
          intro x32 hf H locs ls hP hD hS hl
          refine lv_iadd hx hb dX9_packet_68 ?_
          refine lv_istore_n (lv' := [(2, .int (x5 + x32)), (0, .ref (a 0)), (1, .int p1), (3, .int x6)]) hx hb dX9_packet_69 rfl hl (by decide) rfl (fun ls hl => ?_)
          refine lv_iinc (v := (x6 + 1)) (lv' := [(3, .int (x6 + 1)), (2, .int (x5 + x32)), (0, .ref (a 0)), (1, .int p1)]) hx hb dX9_packet_70 hl (k := 3) rfl rfl (by decide) rfl (fun ls hl => ?_)
          refine lv_goto (tgt := 25) hx hb dX9_packet_73 (by decide) ?_
          exact ih7 (x5 + x32) (x6 + 1) hf H locs ls hP hD hS (lv_sub hl [2, 3, 1, 0] rfl)
        refine lv_icmp_ne (tgt := 67) hx hb dX9_packet_60 (by decide) (fun c33 => ?_) (fun c33 => ?_)
        · have hf := (if_neg c33).symm.trans hf
          refine lv_iconst (v := 0) hx hb dX9_packet_67 (by decide) ?_
          exact J3 0 hf H locs ls hP hD hS (lv_sub hl [0, 1, 3] rfl)
        · have hf := (if_pos c33).symm.trans hf
          refine lv_iconst (v := 1) hx hb dX9_packet_63 (by decide) ?_
          refine lv_goto (tgt := 68) hx hb dX9_packet_64 (by decide) ?_
          exact J3 1 hf H locs ls hP hD hS (lv_sub hl [0, 1, 3] rfl))
    exact L7 1000 0 0 hf H locs ls hP hD hS (lv_sub hl [2, 3, 1, 0] rfl)
  · have hf := (if_pos c2).symm.trans hf
    refine lv_iconst (v := (-1)) hx hb dX9_packet_9 (by decide) ?_
    have ho := Option.some.inj hf
    have hv : (-1) = out.1 := by rw [← ho]
    have hw := congrArg (fun o : Int32 × Sg => (wX9 E a o.2 tr)) ho
    exact r_iret X hr hP hS hv hw dX9_packet_10
def rm_X9_rate : Room := { frames := 4, cells := 0, slots := 0, locals := 103 }
theorem pv_X9_rate : PkV RX9 yX9_rate cX9_rate 6 (some .int) 2 := ⟨im_X9_rate, se_X9_rate, ini_X9, cd_X9_rate, by decide +kernel⟩
set_option maxHeartbeats 4000000 in
set_option maxRecDepth 100000 in
theorem c_X9_rate (l : Launch) (E : Ev) (a : Nat → Nat) (σ : Sg) (tr : Int64) (p1 : Int32) (p2 : Int32) {out : Int32 × Sg × Int64} (hf : f_X9_rate σ tr p1 p2 = some out) : MtI l yX9_rate (wl yX9_rate cX9_rate 6 (some .int)) rm_X9_rate E [.ref (a 0), .int p1, .int p2] (wX9 E a σ tr) out.1 (wX9 E a out.2.1 out.2.2) := by
  refine mt_of (QQ := (fun A => va_Qi (fun x (_ : Unit) => x = out.1) (fun _ t => QW E (wX9 E a out.2.1 out.2.2) t) A)) (by decide) (Nat.le_of_ble_eq_true rfl) (fun p e s m below meth c A ls X hr hP hD hS hl => ?_)
  have hx := X.1.1
  have hb := X.1.2.1
  have hl : lv_has ls 6 [(0, .ref (a 0)), (1, .int p1), (2, .int p2)] := hl
  obtain ⟨H, hHe⟩ : ∃ H : Heap, H = s.heap := ⟨_, rfl⟩
  obtain ⟨locs, hLe⟩ : ∃ locs : List Loc, locs = [] := ⟨_, rfl⟩
  have hP : va_P E.1 vwCl (wX9 E a σ tr) H := by rw [hHe]; exact hP
  have hS : va_S A s.heap H locs := by rw [hHe, hLe]; exact hS
  rw [← hLe, show W p l e rm_X9_rate s m ([.ref (a 0), .int p1, .int p2] : List Value).toArray below meth c s.heap locs 0 0 = W p l e rm_X9_rate s m ([.ref (a 0), .int p1, .int p2] : List Value).toArray below meth c H locs 0 0 from by rw [hHe]]
  refine lv_iload_n hx hb dX9_rate_0 rfl (lv_at hl 1 rfl) ?_
  refine lv_iconst (v := 0) hx hb dX9_rate_1 (by decide) ?_
  refine lv_iconst (v := 5) hx hb dX9_rate_2 (by decide) ?_
  obtain ⟨z1, hz1, hf⟩ := obd hf
  refine cS_roI X (As := [.int p1, .int 0, .int 5]) (rest := []) (c_X9_in l E p1 0 5 hz1) ps_X9_in ml_X9_55 ⟨rfl, rfl⟩ ⟨(Nat.le_of_ble_eq_true rfl), (Nat.le_of_ble_eq_true rfl)⟩ hP hD hS (is := []) (wc := []) rfl rfl rfl hl.1 rfl (Nat.le_of_ble_eq_true rfl) dX9_rate_3 ⟨Nat.le_refl _, Nat.le_refl _⟩ (fun H locs hP hS => ?_)
  refine lv_if_eq (tgt := 17) hx hb dX9_rate_6 (by decide) (fun c2 => ?_) (fun c2 => ?_)
  · have hf := (if_pos c2).symm.trans hf
    refine lv_ldc hx hb X.1.2.2.2.1 (X.1.2.2.2.2 _ ki_X9_196) dX9_rate_17 ?_
    have ho := Option.some.inj hf
    have hv : (-1000000) = out.1 := by rw [← ho]
    have hw := congrArg (fun o : Int32 × Sg × Int64 => (wX9 E a o.2.1 o.2.2)) ho
    exact r_iret X hr hP hS hv hw dX9_rate_19
  · have hf := (if_neg c2).symm.trans hf
    refine lv_aload_n hx hb dX9_rate_9 rfl (lv_at hl 0 rfl) ?_
    refine lv_iload_n hx hb dX9_rate_10 rfl (lv_at hl 2 rfl) ?_
    obtain ⟨z3, hz3, hf⟩ := obd hf
    refine cV_allI X (As := [.int p2]) (rest := []) (c_X9_isCell l E a σ tr p2 hz3) pv_X9_isCell ml_X9_59 ⟨rfl, rfl⟩ ⟨(Nat.le_of_ble_eq_true rfl), (Nat.le_of_ble_eq_true rfl)⟩ hP hD hS (wX9_g0_0 _ _ _ _) rfl (wX9_adr _ _ _ _ _ _) rfl hl.1 rfl (Nat.le_of_ble_eq_true rfl) dX9_rate_11 ⟨Nat.le_refl _, Nat.le_refl _⟩ (fun H locs hP hD hS => ?_)
    refine lv_if_ne (tgt := 20) hx hb dX9_rate_14 (by decide) (fun c4 => ?_) (fun c4 => ?_)
    · have hf := (if_neg c4).symm.trans hf
      refine lv_aload_n hx hb dX9_rate_20 rfl (lv_at hl 0 rfl) ?_
      refine lv_dup hx hb dX9_rate_21 rfl ?_
      refine r_get X hP 0 (wX9_g0_0 _ _ _ _) rfl inc_X9 0 (by decide) fl_X9_197 rfl dX9_rate_22 ?_
      refine lv_iload_n hx hb dX9_rate_25 rfl (lv_at hl 1 rfl) ?_
      have J1 : ∀ (y5 : Int64), j_X9_rate_1 σ tr p1 p2 y5 = some out → ∀ (H : Heap) (locs : List Loc) (ls : Array Slot), va_P E.1 vwCl (wX9 E a σ tr) H → va_D A (wX9 E a σ tr) → va_S A s.heap H locs → lv_has ls 6 [(0, .ref (a 0)), (1, .int p1), (2, .int p2)] → W p l e rm_X9_rate s m ([.ref (a 0), .int p1, .int p2] : List Value).toArray below meth c H locs 0 0 (MQ below (va_Qi (fun x (_ : Unit) => x = out.1) (fun _ t => QW E (wX9 E a out.2.1 out.2.2) t) A) ([.ref (a 0), .int p1, .int p2] : List Value).toArray s 0 0 A) (F0 m 80 ls [.long y5, .long tr, .ref (a 0)]) := by
        intro y5 hf H locs ls hP hD hS hl
        refine lv_ladd hx hb dX9_rate_80 ?_
        refine r_put X hP hD hS 0 (wX9_g0_0 _ _ _ _) rfl inc_X9 tyX9 tyX9_ok nmX9 0 (by decide) fl_X9_197 rfl (ty := .long) rfl rfl rfl (Nat.le_of_ble_eq_true rfl) (wX9_s0_0_0 _ _ _ _ _) dX9_rate_81 (fun H locs hP hD hS => ?_)
        refine lv_aload_n hx hb dX9_rate_84 rfl (lv_at hl 0 rfl) ?_
        refine lv_aload_n hx hb dX9_rate_85 rfl (lv_at hl 0 rfl) ?_
        refine r_get X hP 0 (wX9_g0_0 _ _ _ _) rfl inc_X9 5 (by decide) fl_X9_19 rfl dX9_rate_86 ?_
        refine lv_iconst (v := 1) hx hb dX9_rate_89 (by decide) ?_
        obtain ⟨h6, hf⟩ := chk_in hf
        refine r_iald X hP 4 (wX9_g0_4 _ _ _ _) h6 dX9_rate_90 ?_
        obtain ⟨z7, hz7, hf⟩ := obd hf
        refine cV_allV X (As := [.int (σ 4 (1 : Int32).toNatClampNeg)]) (rest := []) (c_X9_now l E a σ (tr + y5) (σ 4 (1 : Int32).toNatClampNeg) hz7) pv_X9_now ml_X9_148 ⟨rfl, rfl⟩ ⟨(Nat.le_of_ble_eq_true rfl), (Nat.le_of_ble_eq_true rfl)⟩ hP hD hS (wX9_g0_0 _ _ _ _) rfl (wX9_adr _ _ _ _ _ _) rfl hl.1 rfl (Nat.le_of_ble_eq_true rfl) dX9_rate_91 ⟨Nat.le_refl _, Nat.le_refl _⟩ (fun H locs hP hD hS => ?_)
        refine lv_aload_n hx hb dX9_rate_94 rfl (lv_at hl 0 rfl) ?_
        refine r_get X hP 0 (wX9_g0_0 _ _ _ _) rfl inc_X9 3 (by decide) fl_X9_13 rfl dX9_rate_95 ?_
        refine lv_bipush (v := 6) hx hb dX9_rate_98 (by decide) ?_
        refine lv_iload_n hx hb dX9_rate_100 rfl (lv_at hl 2 rfl) ?_
        refine lv_iadd hx hb dX9_rate_101 ?_
        obtain ⟨h8, hf⟩ := chk_in hf
        refine r_iald X hP 2 (wX9_g0_2 _ _ _ _) h8 dX9_rate_102 ?_
        refine lv_istore_n (lv' := [(3, .int (z7 2 ((6 + p2) : Int32).toNatClampNeg)), (0, .ref (a 0)), (1, .int p1), (2, .int p2)]) hx hb dX9_rate_103 rfl hl (by decide) rfl (fun ls hl => ?_)
        refine lv_iload_n hx hb dX9_rate_104 rfl (lv_at hl 0 rfl) ?_
        refine lv_aload_n hx hb dX9_rate_105 rfl (lv_at hl 1 rfl) ?_
        refine lv_iconst (v := 0) hx hb dX9_rate_106 (by decide) ?_
        refine lv_iload_n hx hb dX9_rate_107 rfl (lv_at hl 3 rfl) ?_
        obtain ⟨z9, hz9, hf⟩ := obd hf
        refine cV_allI X (As := [.int 0, .int p2]) (rest := [.int (z7 2 ((6 + p2) : Int32).toNatClampNeg)]) (c_X9_gain l E a z7 (tr + y5) 0 p2 hz9) pv_X9_gain ml_X9_151 ⟨rfl, rfl⟩ ⟨(Nat.le_of_ble_eq_true rfl), (Nat.le_of_ble_eq_true rfl)⟩ hP hD hS (wX9_g0_0 _ _ _ _) rfl (wX9_adr _ _ _ _ _ _) rfl hl.1 rfl (Nat.le_of_ble_eq_true rfl) dX9_rate_108 ⟨Nat.le_refl _, Nat.le_refl _⟩ (fun H locs hP hD hS => ?_)
        refine lv_iadd hx hb dX9_rate_111 ?_
        refine lv_istore (lv' := [(4, .int ((z7 2 ((6 + p2) : Int32).toNatClampNeg) + z9)), (3, .int (z7 2 ((6 + p2) : Int32).toNatClampNeg)), (0, .ref (a 0)), (1, .int p1), (2, .int p2)]) hx hb dX9_rate_112 hl (by decide) rfl (fun ls hl => ?_)
        refine lv_iload_n hx hb dX9_rate_114 rfl (lv_at hl 1 rfl) ?_
        refine lv_aload_n hx hb dX9_rate_115 rfl (lv_at hl 2 rfl) ?_
        refine r_get X hP 0 (wX9_g0_0 _ _ _ _) rfl inc_X9 15 (by decide) fl_X9_35 rfl dX9_rate_116 ?_
        refine lv_bipush (v := 32) hx hb dX9_rate_119 (by decide) ?_
        refine lv_iload_n hx hb dX9_rate_121 rfl (lv_at hl 4 rfl) ?_
        refine lv_iadd hx hb dX9_rate_122 ?_
        obtain ⟨h10, hf⟩ := chk_in hf
        refine r_iald X hP 9 (wX9_g0_9 _ _ _ _) h10 dX9_rate_123 ?_
        refine lv_isub hx hb dX9_rate_124 ?_
        refine lv_istore (lv' := [(5, .int ((z7 2 ((6 + p2) : Int32).toNatClampNeg) - (z7 9 ((32 + p2) : Int32).toNatClampNeg))), (4, .int ((z7 2 ((6 + p2) : Int32).toNatClampNeg) + z9)), (3, .int (z7 2 ((6 + p2) : Int32).toNatClampNeg)), (0, .ref (a 0)), (1, .int p1), (2, .int p2)]) hx hb dX9_rate_125 hl (by decide) rfl (fun ls hl => ?_)
        refine lv_iload_n hx hb dX9_rate_127 rfl (lv_at hl 4 rfl) ?_
        refine lv_if_ne (tgt := 135) hx hb dX9_rate_128 (by decide) (fun c11 => ?_) (fun c11 => ?_)
        · have hf := (if_neg c11).symm.trans hf
          refine lv_iload_n hx hb dX9_rate_135 rfl (lv_at hl 4 rfl) ?_
          refine lv_iconst (v := 1) hx hb dX9_rate_136 (by decide) ?_
          refine lv_icmp_ne (tgt := 145) hx hb dX9_rate_137 (by decide) (fun c12 => ?_) (fun c12 => ?_)
          · have hf := (if_neg c12).symm.trans hf
            refine lv_iload_n hx hb dX9_rate_145 rfl (lv_at hl 4 rfl) ?_
            refine lv_iconst (v := 2) hx hb dX9_rate_146 (by decide) ?_
            refine lv_icmp_ne (tgt := 155) hx hb dX9_rate_147 (by decide) (fun c13 => ?_) (fun c13 => ?_)
            · have hf := (if_neg c13).symm.trans hf
              refine lv_iload_n hx hb dX9_rate_155 rfl (lv_at hl 4 rfl) ?_
              refine lv_iconst (v := 3) hx hb dX9_rate_156 (by decide) ?_
              refine lv_icmp_ne (tgt := 167) hx hb dX9_rate_157 (by decide) (fun c14 => ?_) (fun c14 => ?_)
              · have hf := (if_neg c14).symm.trans hf
                refine lv_iload_n hx hb dX9_rate_167 rfl (lv_at hl 4 rfl) ?_
                refine lv_iconst (v := 4) hx hb dX9_rate_168 (by decide) ?_
                refine lv_icmp_ne (tgt := 184) hx hb dX9_rate_169 (by decide) (fun c15 => ?_) (fun c15 => ?_)
                · have hf := (if_neg c15).symm.trans hf
                  refine lv_iload_n hx hb dX9_rate_184 rfl (lv_at hl 2 rfl) ?_
                  refine lv_aload_n hx hb dX9_rate_185 rfl (lv_at hl 3 rfl) ?_
                  refine r_get X hP 0 (wX9_g0_0 _ _ _ _) rfl inc_X9 5 (by decide) fl_X9_19 rfl dX9_rate_186 ?_
                  refine lv_iconst (v := 0) hx hb dX9_rate_189 (by decide) ?_
                  obtain ⟨h16, hf⟩ := chk_in hf
                  refine r_iald X hP 4 (wX9_g0_4 _ _ _ _) h16 dX9_rate_190 ?_
                  refine lv_iadd hx hb dX9_rate_191 ?_
                  have ho := Option.some.inj hf
                  have hv : ((z7 2 ((6 + p2) : Int32).toNatClampNeg) + (z7 4 (0 : Int32).toNatClampNeg)) = out.1 := by rw [← ho]
                  have hw := congrArg (fun o : Int32 × Sg × Int64 => (wX9 E a o.2.1 o.2.2)) ho
                  exact r_iret X hr hP hS hv hw dX9_rate_192
                · have hf := (if_pos c15).symm.trans hf
                  refine lv_iload hx hb dX9_rate_172 (lv_at hl 0 rfl) ?_
                  refine lv_aload_n hx hb dX9_rate_174 rfl (lv_at hl 3 rfl) ?_
                  refine r_get X hP 0 (wX9_g0_0 _ _ _ _) rfl inc_X9 5 (by decide) fl_X9_19 rfl dX9_rate_175 ?_
                  refine lv_iconst (v := 1) hx hb dX9_rate_178 (by decide) ?_
                  obtain ⟨h17, hf⟩ := chk_in hf
                  refine r_iald X hP 4 (wX9_g0_4 _ _ _ _) h17 dX9_rate_179 ?_
                  refine lv_iadd hx hb dX9_rate_180 ?_
                  refine lv_goto (tgt := 192) hx hb dX9_rate_181 (by decide) ?_
                  have ho := Option.some.inj hf
                  have hv : (((z7 2 ((6 + p2) : Int32).toNatClampNeg) - (z7 9 ((32 + p2) : Int32).toNatClampNeg)) + (z7 4 (1 : Int32).toNatClampNeg)) = out.1 := by rw [← ho]
                  have hw := congrArg (fun o : Int32 × Sg × Int64 => (wX9 E a o.2.1 o.2.2)) ho
                  exact r_iret X hr hP hS hv hw dX9_rate_192
              · have hf := (if_pos c14).symm.trans hf
                refine lv_iconst (v := 2) hx hb dX9_rate_160 (by decide) ?_
                refine lv_iload hx hb dX9_rate_161 (lv_at hl 1 rfl) ?_
                refine lv_imul hx hb dX9_rate_163 ?_
                refine lv_goto (tgt := 192) hx hb dX9_rate_164 (by decide) ?_
                have ho := Option.some.inj hf
                have hv : (2 * ((z7 2 ((6 + p2) : Int32).toNatClampNeg) + z9)) = out.1 := by rw [← ho]
                have hw := congrArg (fun o : Int32 × Sg × Int64 => (wX9 E a o.2.1 o.2.2)) ho
                exact r_iret X hr hP hS hv hw dX9_rate_192
            · have hf := (if_pos c13).symm.trans hf
              refine lv_iload hx hb dX9_rate_150 (lv_at hl 0 rfl) ?_
              refine lv_goto (tgt := 192) hx hb dX9_rate_152 (by decide) ?_
              have ho := Option.some.inj hf
              have hv : ((z7 2 ((6 + p2) : Int32).toNatClampNeg) - (z7 9 ((32 + p2) : Int32).toNatClampNeg)) = out.1 := by rw [← ho]
              have hw := congrArg (fun o : Int32 × Sg × Int64 => (wX9 E a o.2.1 o.2.2)) ho
              exact r_iret X hr hP hS hv hw dX9_rate_192
          · have hf := (if_pos c12).symm.trans hf
            refine lv_iload hx hb dX9_rate_140 (lv_at hl 1 rfl) ?_
            refine lv_goto (tgt := 192) hx hb dX9_rate_142 (by decide) ?_
            have ho := Option.some.inj hf
            have hv : ((z7 2 ((6 + p2) : Int32).toNatClampNeg) + z9) = out.1 := by rw [← ho]
            have hw := congrArg (fun o : Int32 × Sg × Int64 => (wX9 E a o.2.1 o.2.2)) ho
            exact r_iret X hr hP hS hv hw dX9_rate_192
        · have hf := (if_pos c11).symm.trans hf
          refine lv_iload_n hx hb dX9_rate_131 rfl (lv_at hl 2 rfl) ?_
          refine lv_goto (tgt := 192) hx hb dX9_rate_132 (by decide) ?_
          have ho := Option.some.inj hf
          have hv : (z7 2 ((6 + p2) : Int32).toNatClampNeg) = out.1 := by rw [← ho]
          have hw := congrArg (fun o : Int32 × Sg × Int64 => (wX9 E a o.2.1 o.2.2)) ho
          exact r_iret X hr hP hS hv hw dX9_rate_192
      refine lv_if_ne (tgt := 33) hx hb dX9_rate_26 (by decide) (fun c18 => ?_) (fun c18 => ?_)
      · have hf := (if_neg c18).symm.trans hf
        refine lv_iload_n hx hb dX9_rate_33 rfl (lv_at hl 1 rfl) ?_
        refine lv_iconst (v := 1) hx hb dX9_rate_34 (by decide) ?_
        refine lv_icmp_ne (tgt := 44) hx hb dX9_rate_35 (by decide) (fun c19 => ?_) (fun c19 => ?_)
        · have hf := (if_neg c19).symm.trans hf
          refine lv_iload_n hx hb dX9_rate_44 rfl (lv_at hl 1 rfl) ?_
          refine lv_iconst (v := 2) hx hb dX9_rate_45 (by decide) ?_
          refine lv_icmp_ne (tgt := 55) hx hb dX9_rate_46 (by decide) (fun c20 => ?_) (fun c20 => ?_)
          · have hf := (if_neg c20).symm.trans hf
            refine lv_iload_n hx hb dX9_rate_55 rfl (lv_at hl 1 rfl) ?_
            refine lv_iconst (v := 3) hx hb dX9_rate_56 (by decide) ?_
            refine lv_icmp_ne (tgt := 66) hx hb dX9_rate_57 (by decide) (fun c21 => ?_) (fun c21 => ?_)
            · have hf := (if_neg c21).symm.trans hf
              refine lv_iload_n hx hb dX9_rate_66 rfl (lv_at hl 1 rfl) ?_
              refine lv_iconst (v := 4) hx hb dX9_rate_67 (by decide) ?_
              refine lv_icmp_ne (tgt := 77) hx hb dX9_rate_68 (by decide) (fun c22 => ?_) (fun c22 => ?_)
              · have hf := (if_neg c22).symm.trans hf
                refine lv_ldc2 hx hb X.1.2.2.2.1 (X.1.2.2.2.2 _ kl_X9_209) dX9_rate_77 ?_
                exact J1 100001 hf H locs ls hP hD hS (lv_sub hl [0, 1, 2] rfl)
              · have hf := (if_pos c22).symm.trans hf
                refine lv_ldc2 hx hb X.1.2.2.2.1 (X.1.2.2.2.2 _ kl_X9_207) dX9_rate_71 ?_
                refine lv_goto (tgt := 80) hx hb dX9_rate_74 (by decide) ?_
                exact J1 10101 hf H locs ls hP hD hS (lv_sub hl [0, 1, 2] rfl)
            · have hf := (if_pos c21).symm.trans hf
              refine lv_ldc2 hx hb X.1.2.2.2.1 (X.1.2.2.2.2 _ kl_X9_205) dX9_rate_60 ?_
              refine lv_goto (tgt := 80) hx hb dX9_rate_63 (by decide) ?_
              exact J1 1011 hf H locs ls hP hD hS (lv_sub hl [0, 1, 2] rfl)
          · have hf := (if_pos c20).symm.trans hf
            refine lv_ldc2 hx hb X.1.2.2.2.1 (X.1.2.2.2.2 _ kl_X9_203) dX9_rate_49 ?_
            refine lv_goto (tgt := 80) hx hb dX9_rate_52 (by decide) ?_
            exact J1 101 hf H locs ls hP hD hS (lv_sub hl [0, 1, 2] rfl)
        · have hf := (if_pos c19).symm.trans hf
          refine lv_ldc2 hx hb X.1.2.2.2.1 (X.1.2.2.2.2 _ kl_X9_201) dX9_rate_38 ?_
          refine lv_goto (tgt := 80) hx hb dX9_rate_41 (by decide) ?_
          exact J1 11 hf H locs ls hP hD hS (lv_sub hl [0, 1, 2] rfl)
      · have hf := (if_pos c18).symm.trans hf
        refine lv_lconst (v := 1) hx hb dX9_rate_29 (by decide) ?_
        refine lv_goto (tgt := 80) hx hb dX9_rate_30 (by decide) ?_
        exact J1 1 hf H locs ls hP hD hS (lv_sub hl [0, 1, 2] rfl)
    · have hf := (if_pos c4).symm.trans hf
      refine lv_ldc hx hb X.1.2.2.2.1 (X.1.2.2.2.2 _ ki_X9_196) dX9_rate_17 ?_
      have ho := Option.some.inj hf
      have hv : (-1000000) = out.1 := by rw [← ho]
      have hw := congrArg (fun o : Int32 × Sg × Int64 => (wX9 E a o.2.1 o.2.2)) ho
      exact r_iret X hr hP hS hv hw dX9_rate_19
def rm_X9_reachesOn : Room := { frames := 3, cells := 0, slots := 0, locals := 81 }
theorem pv_X9_reachesOn : PkV RX9 yX9_reachesOn cX9_reachesOn 8 (some .int) 4 := ⟨im_X9_reachesOn, se_X9_reachesOn, ini_X9, cd_X9_reachesOn, by decide +kernel⟩
set_option maxHeartbeats 4000000 in
set_option maxRecDepth 100000 in
theorem c_X9_reachesOn (l : Launch) (E : Ev) (a : Nat → Nat) (σ : Sg) (tr : Int64) (p1 : Int32) (p2 : Int32) (p3 : Int32) (p4 : Int32) {out : Int32 × Sg} (hf : f_X9_reachesOn σ tr p1 p2 p3 p4 = some out) : MtI l yX9_reachesOn (wl yX9_reachesOn cX9_reachesOn 8 (some .int)) rm_X9_reachesOn E [.ref (a 0), .int p1, .int p2, .int p3, .int p4] (wX9 E a σ tr) out.1 (wX9 E a out.2 tr) := by
  refine mt_of (QQ := (fun A => va_Qi (fun x (_ : Unit) => x = out.1) (fun _ t => QW E (wX9 E a out.2 tr) t) A)) (by decide) (Nat.le_of_ble_eq_true rfl) (fun p e s m below meth c A ls X hr hP hD hS hl => ?_)
  have hx := X.1.1
  have hb := X.1.2.1
  have hl : lv_has ls 8 [(0, .ref (a 0)), (1, .int p1), (2, .int p2), (3, .int p3), (4, .int p4)] := hl
  obtain ⟨H, hHe⟩ : ∃ H : Heap, H = s.heap := ⟨_, rfl⟩
  obtain ⟨locs, hLe⟩ : ∃ locs : List Loc, locs = [] := ⟨_, rfl⟩
  have hP : va_P E.1 vwCl (wX9 E a σ tr) H := by rw [hHe]; exact hP
  have hS : va_S A s.heap H locs := by rw [hHe, hLe]; exact hS
  rw [← hLe, show W p l e rm_X9_reachesOn s m ([.ref (a 0), .int p1, .int p2, .int p3, .int p4] : List Value).toArray below meth c s.heap locs 0 0 = W p l e rm_X9_reachesOn s m ([.ref (a 0), .int p1, .int p2, .int p3, .int p4] : List Value).toArray below meth c H locs 0 0 from by rw [hHe]]
  refine lv_iload_n hx hb dX9_reachesOn_0 rfl (lv_at hl 3 rfl) ?_
  refine lv_iconst (v := 1) hx hb dX9_reachesOn_1 (by decide) ?_
  refine lv_icmp_ne (tgt := 24) hx hb dX9_reachesOn_2 (by decide) (fun c1 => ?_) (fun c1 => ?_)
  · have hf := (if_neg c1).symm.trans hf
    refine lv_iconst (v := 0) hx hb dX9_reachesOn_24 (by decide) ?_
    refine lv_istore (lv' := [(5, .int 0), (0, .ref (a 0)), (1, .int p1), (2, .int p2), (3, .int p3), (4, .int p4)]) hx hb dX9_reachesOn_25 hl (by decide) rfl (fun ls hl => ?_)
    have J1 : ∀ (x2 : Int32) (x3 : Int32) (g4 : Sg), j_X9_reachesOn_1 p4 x2 x3 g4 = some out → ∀ (H : Heap) (locs : List Loc) (ls : Array Slot), va_P E.1 vwCl (wX9 E a g4 tr) H → va_D A (wX9 E a g4 tr) → va_S A s.heap H locs → lv_has ls 8 [(4, .int p4), (5, .int x2), (7, .int x3)] → W p l e rm_X9_reachesOn s m ([.ref (a 0), .int p1, .int p2, .int p3, .int p4] : List Value).toArray below meth c H locs 0 0 (MQ below (va_Qi (fun x (_ : Unit) => x = out.1) (fun _ t => QW E (wX9 E a out.2 tr) t) A) ([.ref (a 0), .int p1, .int p2, .int p3, .int p4] : List Value).toArray s 0 0 A) (F0 m 114 ls []) := by
      intro x2 x3 g4 hf H locs ls hP hD hS hl
      refine lv_bipush (v := 32) hx hb dX9_reachesOn_114 (by decide) ?_
      refine lv_bipush (v := 32) hx hb dX9_reachesOn_116 (by decide) ?_
      refine lv_iload hx hb dX9_reachesOn_118 (lv_at hl 0 rfl) ?_
      refine lv_imul hx hb dX9_reachesOn_120 ?_
      refine lv_iload hx hb dX9_reachesOn_121 (lv_at hl 1 rfl) ?_
      refine lv_iadd hx hb dX9_reachesOn_123 ?_
      refine lv_imul hx hb dX9_reachesOn_124 ?_
      refine lv_iload hx hb dX9_reachesOn_125 (lv_at hl 2 rfl) ?_
      refine lv_iadd hx hb dX9_reachesOn_127 ?_
      have ho := Option.some.inj hf
      have hv : ((32 * ((32 * p4) + x2)) + x3) = out.1 := by rw [← ho]
      have hw := congrArg (fun o : Int32 × Sg => (wX9 E a o.2 tr)) ho
      exact r_iret X hr hP hS hv hw dX9_reachesOn_128
    have J2 : ∀ (x5 : Int32) (g6 : Sg), j_X9_reachesOn_2 p4 x5 g6 = some out → ∀ (H : Heap) (locs : List Loc) (ls : Array Slot), va_P E.1 vwCl (wX9 E a g6 tr) H → va_D A (wX9 E a g6 tr) → va_S A s.heap H locs → lv_has ls 8 [(4, .int p4), (5, .int x5)] → W p l e rm_X9_reachesOn s m ([.ref (a 0), .int p1, .int p2, .int p3, .int p4] : List Value).toArray below meth c H locs 0 0 (MQ below (va_Qi (fun x (_ : Unit) => x = out.1) (fun _ t => QW E (wX9 E a out.2 tr) t) A) ([.ref (a 0), .int p1, .int p2, .int p3, .int p4] : List Value).toArray s 0 0 A) (F0 m 64 ls []) := by
      intro x5 g6 hf H locs ls hP hD hS hl
      refine lv_bipush (v := 32) hx hb dX9_reachesOn_64 (by decide) ?_
      refine lv_iload hx hb dX9_reachesOn_66 (lv_at hl 0 rfl) ?_
      refine lv_imul hx hb dX9_reachesOn_68 ?_
      refine lv_iload hx hb dX9_reachesOn_69 (lv_at hl 1 rfl) ?_
      refine lv_iadd hx hb dX9_reachesOn_71 ?_
      have ho := Option.some.inj hf
      have hv : ((32 * p4) + x5) = out.1 := by rw [← ho]
      have hw := congrArg (fun o : Int32 × Sg => (wX9 E a o.2 tr)) ho
      exact r_iret X hr hP hS hv hw dX9_reachesOn_72
    have L11 := lc2_ind (o := out) (step := (s_X9_reachesOn_27 tr p1 p2 p3 (j_X9_reachesOn_1 p4) (j_X9_reachesOn_2 p4))) (fun x7 g8 => ∀ (H : Heap) (locs : List Loc) (ls : Array Slot), va_P E.1 vwCl (wX9 E a g8 tr) H → va_D A (wX9 E a g8 tr) → va_S A s.heap H locs → lv_has ls 8 [(0, .ref (a 0)), (1, .int p1), (2, .int p2), (3, .int p3), (4, .int p4), (5, .int x7)] → W p l e rm_X9_reachesOn s m ([.ref (a 0), .int p1, .int p2, .int p3, .int p4] : List Value).toArray below meth c H locs 0 0 (MQ below (va_Qi (fun x (_ : Unit) => x = out.1) (fun _ t => QW E (wX9 E a out.2 tr) t) A) ([.ref (a 0), .int p1, .int p2, .int p3, .int p4] : List Value).toArray s 0 0 A) (F0 m 27 ls [])) (fun x7 g8 k9 ih11 hf H locs ls hP hD hS hl => by
      refine lv_iload hx hb dX9_reachesOn_27 (lv_at hl 5 rfl) ?_
      refine lv_bipush (v := 24) hx hb dX9_reachesOn_29 (by decide) ?_
      refine lv_icmp_ge (tgt := 141) hx hb dX9_reachesOn_31 (by decide) (fun c12 => ?_) (fun c12 => ?_)
      · have hf := (if_pos c12).symm.trans hf
        refine lv_bipush (v := (-9)) hx hb dX9_reachesOn_141 (by decide) ?_
        have ho := Option.some.inj hf
        have hv : (-9) = out.1 := by rw [← ho]
        have hw := congrArg (fun o : Int32 × Sg => (wX9 E a o.2 tr)) ho
        exact r_iret X hr hP hS hv hw dX9_reachesOn_143
      · have hf := (if_neg c12).symm.trans hf
        refine lv_aload_n hx hb dX9_reachesOn_34 rfl (lv_at hl 0 rfl) ?_
        refine lv_iconst (v := 1) hx hb dX9_reachesOn_35 (by decide) ?_
        refine lv_iload hx hb dX9_reachesOn_36 (lv_at hl 5 rfl) ?_
        obtain ⟨z13, hz13, hf⟩ := obd hf
        refine cV_allI X (As := [.int 1, .int x7]) (rest := []) (c_X9_folds l E a g8 tr 1 x7 hz13) pv_X9_folds ml_X9_136 ⟨rfl, rfl⟩ ⟨(Nat.le_of_ble_eq_true rfl), (Nat.le_of_ble_eq_true rfl)⟩ hP hD hS (wX9_g0_0 _ _ _ _) rfl (wX9_adr _ _ _ _ _ _) rfl hl.1 rfl (Nat.le_of_ble_eq_true rfl) dX9_reachesOn_38 ⟨Nat.le_refl _, Nat.le_refl _⟩ (fun H locs hP hD hS => ?_)
        refine lv_istore (lv' := [(6, .int z13.1), (0, .ref (a 0)), (1, .int p1), (2, .int p2), (3, .int p3), (4, .int p4), (5, .int x7)]) hx hb dX9_reachesOn_41 hl (by decide) rfl (fun ls hl => ?_)
        refine lv_iload hx hb dX9_reachesOn_43 (lv_at hl 0 rfl) ?_
        refine lv_if_eq (tgt := 73) hx hb dX9_reachesOn_45 (by decide) (fun c14 => ?_) (fun c14 => ?_)
        · have hf := (if_pos c14).symm.trans hf
          refine lv_iconst (v := 0) hx hb dX9_reachesOn_73 (by decide) ?_
          refine lv_istore (lv' := [(7, .int 0), (6, .int z13.1), (0, .ref (a 0)), (1, .int p1), (2, .int p2), (3, .int p3), (4, .int p4), (5, .int x7)]) hx hb dX9_reachesOn_74 hl (by decide) rfl (fun ls hl => ?_)
          have L17 := lc2_ind (o := out) (step := (s_X9_reachesOn_76 tr p1 p2 p3 x7 k9 (j_X9_reachesOn_1 p4) z13)) (fun x15 g16 => ∀ (H : Heap) (locs : List Loc) (ls : Array Slot), va_P E.1 vwCl (wX9 E a g16 tr) H → va_D A (wX9 E a g16 tr) → va_S A s.heap H locs → lv_has ls 8 [(0, .ref (a 0)), (1, .int p1), (2, .int p2), (3, .int p3), (4, .int p4), (5, .int x7), (6, .int z13.1), (7, .int x15)] → W p l e rm_X9_reachesOn s m ([.ref (a 0), .int p1, .int p2, .int p3, .int p4] : List Value).toArray below meth c H locs 0 0 (MQ below (va_Qi (fun x (_ : Unit) => x = out.1) (fun _ t => QW E (wX9 E a out.2 tr) t) A) ([.ref (a 0), .int p1, .int p2, .int p3, .int p4] : List Value).toArray s 0 0 A) (F0 m 76 ls [])) (fun x15 g16 k17 ih17 hf H locs ls hP hD hS hl => by
            refine lv_iload hx hb dX9_reachesOn_76 (lv_at hl 7 rfl) ?_
            refine lv_bipush (v := 24) hx hb dX9_reachesOn_78 (by decide) ?_
            refine lv_icmp_ge (tgt := 135) hx hb dX9_reachesOn_80 (by decide) (fun c18 => ?_) (fun c18 => ?_)
            · have hf := (if_pos c18).symm.trans hf
              refine lv_iinc (v := (x7 + 1)) (lv' := [(5, .int (x7 + 1)), (0, .ref (a 0)), (1, .int p1), (2, .int p2), (3, .int p3), (4, .int p4), (6, .int z13.1), (7, .int x15)]) hx hb dX9_reachesOn_135 hl (k := 5) rfl rfl (by decide) rfl (fun ls hl => ?_)
              refine lv_goto (tgt := 27) hx hb dX9_reachesOn_138 (by decide) ?_
              exact ih11 (x7 + 1) g16 hf H locs ls hP hD hS (lv_sub hl [1, 2, 3, 4, 5, 0] rfl)
            · have hf := (if_neg c18).symm.trans hf
              refine lv_iload hx hb dX9_reachesOn_83 (lv_at hl 6 rfl) ?_
              refine lv_if_eq (tgt := 135) hx hb dX9_reachesOn_85 (by decide) (fun c19 => ?_) (fun c19 => ?_)
              · have hf := (if_pos c19).symm.trans hf
                refine lv_iinc (v := (x7 + 1)) (lv' := [(5, .int (x7 + 1)), (0, .ref (a 0)), (1, .int p1), (2, .int p2), (3, .int p3), (4, .int p4), (6, .int z13.1), (7, .int x15)]) hx hb dX9_reachesOn_135 hl (k := 5) rfl rfl (by decide) rfl (fun ls hl => ?_)
                refine lv_goto (tgt := 27) hx hb dX9_reachesOn_138 (by decide) ?_
                exact ih11 (x7 + 1) g16 hf H locs ls hP hD hS (lv_sub hl [1, 2, 3, 4, 5, 0] rfl)
              · have hf := (if_neg c19).symm.trans hf
                refine lv_iload_n hx hb dX9_reachesOn_88 rfl (lv_at hl 3 rfl) ?_
                refine lv_iconst (v := 3) hx hb dX9_reachesOn_89 (by decide) ?_
                refine lv_icmp_ne (tgt := 135) hx hb dX9_reachesOn_90 (by decide) (fun c20 => ?_) (fun c20 => ?_)
                · have hf := (if_neg c20).symm.trans hf
                  refine lv_iinc (v := (x7 + 1)) (lv' := [(5, .int (x7 + 1)), (0, .ref (a 0)), (1, .int p1), (2, .int p2), (3, .int p3), (4, .int p4), (6, .int z13.1), (7, .int x15)]) hx hb dX9_reachesOn_135 hl (k := 5) rfl rfl (by decide) rfl (fun ls hl => ?_)
                  refine lv_goto (tgt := 27) hx hb dX9_reachesOn_138 (by decide) ?_
                  exact ih11 (x7 + 1) g16 hf H locs ls hP hD hS (lv_sub hl [1, 2, 3, 4, 5, 0] rfl)
                · have hf := (if_pos c20).symm.trans hf
                  refine lv_aload_n hx hb dX9_reachesOn_93 rfl (lv_at hl 0 rfl) ?_
                  refine lv_iconst (v := 2) hx hb dX9_reachesOn_94 (by decide) ?_
                  refine lv_iload hx hb dX9_reachesOn_95 (lv_at hl 7 rfl) ?_
                  obtain ⟨z21, hz21, hf⟩ := obd hf
                  refine cV_allI X (As := [.int 2, .int x15]) (rest := []) (c_X9_folds l E a g16 tr 2 x15 hz21) pv_X9_folds ml_X9_136 ⟨rfl, rfl⟩ ⟨(Nat.le_of_ble_eq_true rfl), (Nat.le_of_ble_eq_true rfl)⟩ hP hD hS (wX9_g0_0 _ _ _ _) rfl (wX9_adr _ _ _ _ _ _) rfl hl.1 rfl (Nat.le_of_ble_eq_true rfl) dX9_reachesOn_97 ⟨Nat.le_refl _, Nat.le_refl _⟩ (fun H locs hP hD hS => ?_)
                  refine lv_if_eq (tgt := 129) hx hb dX9_reachesOn_100 (by decide) (fun c22 => ?_) (fun c22 => ?_)
                  · have hf := (if_pos c22).symm.trans hf
                    refine lv_iinc (v := (x15 + 1)) (lv' := [(7, .int (x15 + 1)), (0, .ref (a 0)), (1, .int p1), (2, .int p2), (3, .int p3), (4, .int p4), (5, .int x7), (6, .int z13.1)]) hx hb dX9_reachesOn_129 hl (k := 7) rfl rfl (by decide) rfl (fun ls hl => ?_)
                    refine lv_goto (tgt := 76) hx hb dX9_reachesOn_132 (by decide) ?_
                    exact ih17 (x15 + 1) z21.2 hf H locs ls hP hD hS (lv_sub hl [1, 2, 3, 4, 5, 6, 7, 0] rfl)
                  · have hf := (if_neg c22).symm.trans hf
                    refine lv_aload_n hx hb dX9_reachesOn_103 rfl (lv_at hl 0 rfl) ?_
                    refine lv_iconst (v := 3) hx hb dX9_reachesOn_104 (by decide) ?_
                    refine lv_iload_n hx hb dX9_reachesOn_105 rfl (lv_at hl 1 rfl) ?_
                    refine lv_iload_n hx hb dX9_reachesOn_106 rfl (lv_at hl 2 rfl) ?_
                    obtain ⟨z23, hz23, hf⟩ := obd hf
                    refine cV_allI X (As := [.int 3, .int p1, .int p2]) (rest := []) (c_X9_touches l E a z21.2 tr 3 p1 p2 hz23) pv_X9_touches ml_X9_144 ⟨rfl, rfl⟩ ⟨(Nat.le_of_ble_eq_true rfl), (Nat.le_of_ble_eq_true rfl)⟩ hP hD hS (wX9_g0_0 _ _ _ _) rfl (wX9_adr _ _ _ _ _ _) rfl hl.1 rfl (Nat.le_of_ble_eq_true rfl) dX9_reachesOn_107 ⟨Nat.le_refl _, Nat.le_refl _⟩ (fun H locs hP hD hS => ?_)
                    refine lv_iconst (v := 1) hx hb dX9_reachesOn_110 (by decide) ?_
                    refine lv_icmp_ne (tgt := 129) hx hb dX9_reachesOn_111 (by decide) (fun c24 => ?_) (fun c24 => ?_)
                    · have hf := (if_neg c24).symm.trans hf
                      refine lv_iinc (v := (x15 + 1)) (lv' := [(7, .int (x15 + 1)), (0, .ref (a 0)), (1, .int p1), (2, .int p2), (3, .int p3), (4, .int p4), (5, .int x7), (6, .int z13.1)]) hx hb dX9_reachesOn_129 hl (k := 7) rfl rfl (by decide) rfl (fun ls hl => ?_)
                      refine lv_goto (tgt := 76) hx hb dX9_reachesOn_132 (by decide) ?_
                      exact ih17 (x15 + 1) z21.2 hf H locs ls hP hD hS (lv_sub hl [1, 2, 3, 4, 5, 6, 7, 0] rfl)
                    · have hf := (if_pos c24).symm.trans hf
                      exact J1 x7 x15 z21.2 hf H locs ls hP hD hS (lv_sub hl [4, 5, 7] rfl))
          exact L17 1000 0 z13.2 hf H locs ls hP hD hS (lv_sub hl [2, 3, 4, 5, 6, 7, 1, 0] rfl)
        · have hf := (if_neg c14).symm.trans hf
          refine lv_iload_n hx hb dX9_reachesOn_48 rfl (lv_at hl 4 rfl) ?_
          refine lv_iconst (v := 2) hx hb dX9_reachesOn_49 (by decide) ?_
          refine lv_icmp_ne (tgt := 73) hx hb dX9_reachesOn_50 (by decide) (fun c25 => ?_) (fun c25 => ?_)
          · have hf := (if_neg c25).symm.trans hf
            refine lv_iconst (v := 0) hx hb dX9_reachesOn_73 (by decide) ?_
            refine lv_istore (lv' := [(7, .int 0), (6, .int z13.1), (0, .ref (a 0)), (1, .int p1), (2, .int p2), (3, .int p3), (4, .int p4), (5, .int x7)]) hx hb dX9_reachesOn_74 hl (by decide) rfl (fun ls hl => ?_)
            have L28 := lc2_ind (o := out) (step := (s_X9_reachesOn_76q tr p1 p2 p3 x7 k9 (j_X9_reachesOn_1 p4) z13)) (fun x26 g27 => ∀ (H : Heap) (locs : List Loc) (ls : Array Slot), va_P E.1 vwCl (wX9 E a g27 tr) H → va_D A (wX9 E a g27 tr) → va_S A s.heap H locs → lv_has ls 8 [(0, .ref (a 0)), (1, .int p1), (2, .int p2), (3, .int p3), (4, .int p4), (5, .int x7), (6, .int z13.1), (7, .int x26)] → W p l e rm_X9_reachesOn s m ([.ref (a 0), .int p1, .int p2, .int p3, .int p4] : List Value).toArray below meth c H locs 0 0 (MQ below (va_Qi (fun x (_ : Unit) => x = out.1) (fun _ t => QW E (wX9 E a out.2 tr) t) A) ([.ref (a 0), .int p1, .int p2, .int p3, .int p4] : List Value).toArray s 0 0 A) (F0 m 76 ls [])) (fun x26 g27 k28 ih28 hf H locs ls hP hD hS hl => by
              refine lv_iload hx hb dX9_reachesOn_76 (lv_at hl 7 rfl) ?_
              refine lv_bipush (v := 24) hx hb dX9_reachesOn_78 (by decide) ?_
              refine lv_icmp_ge (tgt := 135) hx hb dX9_reachesOn_80 (by decide) (fun c29 => ?_) (fun c29 => ?_)
              · have hf := (if_pos c29).symm.trans hf
                refine lv_iinc (v := (x7 + 1)) (lv' := [(5, .int (x7 + 1)), (0, .ref (a 0)), (1, .int p1), (2, .int p2), (3, .int p3), (4, .int p4), (6, .int z13.1), (7, .int x26)]) hx hb dX9_reachesOn_135 hl (k := 5) rfl rfl (by decide) rfl (fun ls hl => ?_)
                refine lv_goto (tgt := 27) hx hb dX9_reachesOn_138 (by decide) ?_
                exact ih11 (x7 + 1) g27 hf H locs ls hP hD hS (lv_sub hl [1, 2, 3, 4, 5, 0] rfl)
              · have hf := (if_neg c29).symm.trans hf
                refine lv_iload hx hb dX9_reachesOn_83 (lv_at hl 6 rfl) ?_
                refine lv_if_eq (tgt := 135) hx hb dX9_reachesOn_85 (by decide) (fun c30 => ?_) (fun c30 => ?_)
                · have hf := (if_pos c30).symm.trans hf
                  refine lv_iinc (v := (x7 + 1)) (lv' := [(5, .int (x7 + 1)), (0, .ref (a 0)), (1, .int p1), (2, .int p2), (3, .int p3), (4, .int p4), (6, .int z13.1), (7, .int x26)]) hx hb dX9_reachesOn_135 hl (k := 5) rfl rfl (by decide) rfl (fun ls hl => ?_)
                  refine lv_goto (tgt := 27) hx hb dX9_reachesOn_138 (by decide) ?_
                  exact ih11 (x7 + 1) g27 hf H locs ls hP hD hS (lv_sub hl [1, 2, 3, 4, 5, 0] rfl)
                · have hf := (if_neg c30).symm.trans hf
                  refine lv_iload_n hx hb dX9_reachesOn_88 rfl (lv_at hl 3 rfl) ?_
                  refine lv_iconst (v := 3) hx hb dX9_reachesOn_89 (by decide) ?_
                  refine lv_icmp_ne (tgt := 135) hx hb dX9_reachesOn_90 (by decide) (fun c31 => ?_) (fun c31 => ?_)
                  · have hf := (if_neg c31).symm.trans hf
                    refine lv_iinc (v := (x7 + 1)) (lv' := [(5, .int (x7 + 1)), (0, .ref (a 0)), (1, .int p1), (2, .int p2), (3, .int p3), (4, .int p4), (6, .int z13.1), (7, .int x26)]) hx hb dX9_reachesOn_135 hl (k := 5) rfl rfl (by decide) rfl (fun ls hl => ?_)
                    refine lv_goto (tgt := 27) hx hb dX9_reachesOn_138 (by decide) ?_
                    exact ih11 (x7 + 1) g27 hf H locs ls hP hD hS (lv_sub hl [1, 2, 3, 4, 5, 0] rfl)
                  · have hf := (if_pos c31).symm.trans hf
                    refine lv_aload_n hx hb dX9_reachesOn_93 rfl (lv_at hl 0 rfl) ?_
                    refine lv_iconst (v := 2) hx hb dX9_reachesOn_94 (by decide) ?_
                    refine lv_iload hx hb dX9_reachesOn_95 (lv_at hl 7 rfl) ?_
                    obtain ⟨z32, hz32, hf⟩ := obd hf
                    refine cV_allI X (As := [.int 2, .int x26]) (rest := []) (c_X9_folds l E a g27 tr 2 x26 hz32) pv_X9_folds ml_X9_136 ⟨rfl, rfl⟩ ⟨(Nat.le_of_ble_eq_true rfl), (Nat.le_of_ble_eq_true rfl)⟩ hP hD hS (wX9_g0_0 _ _ _ _) rfl (wX9_adr _ _ _ _ _ _) rfl hl.1 rfl (Nat.le_of_ble_eq_true rfl) dX9_reachesOn_97 ⟨Nat.le_refl _, Nat.le_refl _⟩ (fun H locs hP hD hS => ?_)
                    refine lv_if_eq (tgt := 129) hx hb dX9_reachesOn_100 (by decide) (fun c33 => ?_) (fun c33 => ?_)
                    · have hf := (if_pos c33).symm.trans hf
                      refine lv_iinc (v := (x26 + 1)) (lv' := [(7, .int (x26 + 1)), (0, .ref (a 0)), (1, .int p1), (2, .int p2), (3, .int p3), (4, .int p4), (5, .int x7), (6, .int z13.1)]) hx hb dX9_reachesOn_129 hl (k := 7) rfl rfl (by decide) rfl (fun ls hl => ?_)
                      refine lv_goto (tgt := 76) hx hb dX9_reachesOn_132 (by decide) ?_
                      exact ih28 (x26 + 1) z32.2 hf H locs ls hP hD hS (lv_sub hl [1, 2, 3, 4, 5, 6, 7, 0] rfl)
                    · have hf := (if_neg c33).symm.trans hf
                      refine lv_aload_n hx hb dX9_reachesOn_103 rfl (lv_at hl 0 rfl) ?_
                      refine lv_iconst (v := 3) hx hb dX9_reachesOn_104 (by decide) ?_
                      refine lv_iload_n hx hb dX9_reachesOn_105 rfl (lv_at hl 1 rfl) ?_
                      refine lv_iload_n hx hb dX9_reachesOn_106 rfl (lv_at hl 2 rfl) ?_
                      obtain ⟨z34, hz34, hf⟩ := obd hf
                      refine cV_allI X (As := [.int 3, .int p1, .int p2]) (rest := []) (c_X9_touches l E a z32.2 tr 3 p1 p2 hz34) pv_X9_touches ml_X9_144 ⟨rfl, rfl⟩ ⟨(Nat.le_of_ble_eq_true rfl), (Nat.le_of_ble_eq_true rfl)⟩ hP hD hS (wX9_g0_0 _ _ _ _) rfl (wX9_adr _ _ _ _ _ _) rfl hl.1 rfl (Nat.le_of_ble_eq_true rfl) dX9_reachesOn_107 ⟨Nat.le_refl _, Nat.le_refl _⟩ (fun H locs hP hD hS => ?_)
                      refine lv_iconst (v := 1) hx hb dX9_reachesOn_110 (by decide) ?_
                      refine lv_icmp_ne (tgt := 129) hx hb dX9_reachesOn_111 (by decide) (fun c35 => ?_) (fun c35 => ?_)
                      · have hf := (if_neg c35).symm.trans hf
                        refine lv_iinc (v := (x26 + 1)) (lv' := [(7, .int (x26 + 1)), (0, .ref (a 0)), (1, .int p1), (2, .int p2), (3, .int p3), (4, .int p4), (5, .int x7), (6, .int z13.1)]) hx hb dX9_reachesOn_129 hl (k := 7) rfl rfl (by decide) rfl (fun ls hl => ?_)
                        refine lv_goto (tgt := 76) hx hb dX9_reachesOn_132 (by decide) ?_
                        exact ih28 (x26 + 1) z32.2 hf H locs ls hP hD hS (lv_sub hl [1, 2, 3, 4, 5, 6, 7, 0] rfl)
                      · have hf := (if_pos c35).symm.trans hf
                        exact J1 x7 x26 z32.2 hf H locs ls hP hD hS (lv_sub hl [4, 5, 7] rfl))
            exact L28 1000 0 z13.2 hf H locs ls hP hD hS (lv_sub hl [2, 3, 4, 5, 6, 7, 1, 0] rfl)
          · have hf := (if_pos c25).symm.trans hf
            refine lv_aload_n hx hb dX9_reachesOn_53 rfl (lv_at hl 1 rfl) ?_
            refine lv_iconst (v := 2) hx hb dX9_reachesOn_54 (by decide) ?_
            refine lv_iload_n hx hb dX9_reachesOn_55 rfl (lv_at hl 2 rfl) ?_
            refine lv_iload_n hx hb dX9_reachesOn_56 rfl (lv_at hl 3 rfl) ?_
            obtain ⟨z36, hz36, hf⟩ := obd hf
            refine cV_allI X (As := [.int 2, .int p1, .int p2]) (rest := []) (c_X9_touches l E a z13.2 tr 2 p1 p2 hz36) pv_X9_touches ml_X9_144 ⟨rfl, rfl⟩ ⟨(Nat.le_of_ble_eq_true rfl), (Nat.le_of_ble_eq_true rfl)⟩ hP hD hS (wX9_g0_0 _ _ _ _) rfl (wX9_adr _ _ _ _ _ _) rfl hl.1 rfl (Nat.le_of_ble_eq_true rfl) dX9_reachesOn_57 ⟨Nat.le_refl _, Nat.le_refl _⟩ (fun H locs hP hD hS => ?_)
            refine lv_iconst (v := 1) hx hb dX9_reachesOn_60 (by decide) ?_
            refine lv_icmp_ne (tgt := 73) hx hb dX9_reachesOn_61 (by decide) (fun c37 => ?_) (fun c37 => ?_)
            · have hf := (if_neg c37).symm.trans hf
              refine lv_iconst (v := 0) hx hb dX9_reachesOn_73 (by decide) ?_
              refine lv_istore (lv' := [(7, .int 0), (6, .int z13.1), (0, .ref (a 0)), (1, .int p1), (2, .int p2), (3, .int p3), (4, .int p4), (5, .int x7)]) hx hb dX9_reachesOn_74 hl (by decide) rfl (fun ls hl => ?_)
              have L40 := lc2_ind (o := out) (step := (s_X9_reachesOn_76qq tr p1 p2 p3 x7 k9 (j_X9_reachesOn_1 p4) z13)) (fun x38 g39 => ∀ (H : Heap) (locs : List Loc) (ls : Array Slot), va_P E.1 vwCl (wX9 E a g39 tr) H → va_D A (wX9 E a g39 tr) → va_S A s.heap H locs → lv_has ls 8 [(0, .ref (a 0)), (1, .int p1), (2, .int p2), (3, .int p3), (4, .int p4), (5, .int x7), (6, .int z13.1), (7, .int x38)] → W p l e rm_X9_reachesOn s m ([.ref (a 0), .int p1, .int p2, .int p3, .int p4] : List Value).toArray below meth c H locs 0 0 (MQ below (va_Qi (fun x (_ : Unit) => x = out.1) (fun _ t => QW E (wX9 E a out.2 tr) t) A) ([.ref (a 0), .int p1, .int p2, .int p3, .int p4] : List Value).toArray s 0 0 A) (F0 m 76 ls [])) (fun x38 g39 k40 ih40 hf H locs ls hP hD hS hl => by
                refine lv_iload hx hb dX9_reachesOn_76 (lv_at hl 7 rfl) ?_
                refine lv_bipush (v := 24) hx hb dX9_reachesOn_78 (by decide) ?_
                refine lv_icmp_ge (tgt := 135) hx hb dX9_reachesOn_80 (by decide) (fun c41 => ?_) (fun c41 => ?_)
                · have hf := (if_pos c41).symm.trans hf
                  refine lv_iinc (v := (x7 + 1)) (lv' := [(5, .int (x7 + 1)), (0, .ref (a 0)), (1, .int p1), (2, .int p2), (3, .int p3), (4, .int p4), (6, .int z13.1), (7, .int x38)]) hx hb dX9_reachesOn_135 hl (k := 5) rfl rfl (by decide) rfl (fun ls hl => ?_)
                  refine lv_goto (tgt := 27) hx hb dX9_reachesOn_138 (by decide) ?_
                  exact ih11 (x7 + 1) g39 hf H locs ls hP hD hS (lv_sub hl [1, 2, 3, 4, 5, 0] rfl)
                · have hf := (if_neg c41).symm.trans hf
                  refine lv_iload hx hb dX9_reachesOn_83 (lv_at hl 6 rfl) ?_
                  refine lv_if_eq (tgt := 135) hx hb dX9_reachesOn_85 (by decide) (fun c42 => ?_) (fun c42 => ?_)
                  · have hf := (if_pos c42).symm.trans hf
                    refine lv_iinc (v := (x7 + 1)) (lv' := [(5, .int (x7 + 1)), (0, .ref (a 0)), (1, .int p1), (2, .int p2), (3, .int p3), (4, .int p4), (6, .int z13.1), (7, .int x38)]) hx hb dX9_reachesOn_135 hl (k := 5) rfl rfl (by decide) rfl (fun ls hl => ?_)
                    refine lv_goto (tgt := 27) hx hb dX9_reachesOn_138 (by decide) ?_
                    exact ih11 (x7 + 1) g39 hf H locs ls hP hD hS (lv_sub hl [1, 2, 3, 4, 5, 0] rfl)
                  · have hf := (if_neg c42).symm.trans hf
                    refine lv_iload_n hx hb dX9_reachesOn_88 rfl (lv_at hl 3 rfl) ?_
                    refine lv_iconst (v := 3) hx hb dX9_reachesOn_89 (by decide) ?_
                    refine lv_icmp_ne (tgt := 135) hx hb dX9_reachesOn_90 (by decide) (fun c43 => ?_) (fun c43 => ?_)
                    · have hf := (if_neg c43).symm.trans hf
                      refine lv_iinc (v := (x7 + 1)) (lv' := [(5, .int (x7 + 1)), (0, .ref (a 0)), (1, .int p1), (2, .int p2), (3, .int p3), (4, .int p4), (6, .int z13.1), (7, .int x38)]) hx hb dX9_reachesOn_135 hl (k := 5) rfl rfl (by decide) rfl (fun ls hl => ?_)
                      refine lv_goto (tgt := 27) hx hb dX9_reachesOn_138 (by decide) ?_
                      exact ih11 (x7 + 1) g39 hf H locs ls hP hD hS (lv_sub hl [1, 2, 3, 4, 5, 0] rfl)
                    · have hf := (if_pos c43).symm.trans hf
                      refine lv_aload_n hx hb dX9_reachesOn_93 rfl (lv_at hl 0 rfl) ?_
                      refine lv_iconst (v := 2) hx hb dX9_reachesOn_94 (by decide) ?_
                      refine lv_iload hx hb dX9_reachesOn_95 (lv_at hl 7 rfl) ?_
                      obtain ⟨z44, hz44, hf⟩ := obd hf
                      refine cV_allI X (As := [.int 2, .int x38]) (rest := []) (c_X9_folds l E a g39 tr 2 x38 hz44) pv_X9_folds ml_X9_136 ⟨rfl, rfl⟩ ⟨(Nat.le_of_ble_eq_true rfl), (Nat.le_of_ble_eq_true rfl)⟩ hP hD hS (wX9_g0_0 _ _ _ _) rfl (wX9_adr _ _ _ _ _ _) rfl hl.1 rfl (Nat.le_of_ble_eq_true rfl) dX9_reachesOn_97 ⟨Nat.le_refl _, Nat.le_refl _⟩ (fun H locs hP hD hS => ?_)
                      refine lv_if_eq (tgt := 129) hx hb dX9_reachesOn_100 (by decide) (fun c45 => ?_) (fun c45 => ?_)
                      · have hf := (if_pos c45).symm.trans hf
                        refine lv_iinc (v := (x38 + 1)) (lv' := [(7, .int (x38 + 1)), (0, .ref (a 0)), (1, .int p1), (2, .int p2), (3, .int p3), (4, .int p4), (5, .int x7), (6, .int z13.1)]) hx hb dX9_reachesOn_129 hl (k := 7) rfl rfl (by decide) rfl (fun ls hl => ?_)
                        refine lv_goto (tgt := 76) hx hb dX9_reachesOn_132 (by decide) ?_
                        exact ih40 (x38 + 1) z44.2 hf H locs ls hP hD hS (lv_sub hl [1, 2, 3, 4, 5, 6, 7, 0] rfl)
                      · have hf := (if_neg c45).symm.trans hf
                        refine lv_aload_n hx hb dX9_reachesOn_103 rfl (lv_at hl 0 rfl) ?_
                        refine lv_iconst (v := 3) hx hb dX9_reachesOn_104 (by decide) ?_
                        refine lv_iload_n hx hb dX9_reachesOn_105 rfl (lv_at hl 1 rfl) ?_
                        refine lv_iload_n hx hb dX9_reachesOn_106 rfl (lv_at hl 2 rfl) ?_
                        obtain ⟨z46, hz46, hf⟩ := obd hf
                        refine cV_allI X (As := [.int 3, .int p1, .int p2]) (rest := []) (c_X9_touches l E a z44.2 tr 3 p1 p2 hz46) pv_X9_touches ml_X9_144 ⟨rfl, rfl⟩ ⟨(Nat.le_of_ble_eq_true rfl), (Nat.le_of_ble_eq_true rfl)⟩ hP hD hS (wX9_g0_0 _ _ _ _) rfl (wX9_adr _ _ _ _ _ _) rfl hl.1 rfl (Nat.le_of_ble_eq_true rfl) dX9_reachesOn_107 ⟨Nat.le_refl _, Nat.le_refl _⟩ (fun H locs hP hD hS => ?_)
                        refine lv_iconst (v := 1) hx hb dX9_reachesOn_110 (by decide) ?_
                        refine lv_icmp_ne (tgt := 129) hx hb dX9_reachesOn_111 (by decide) (fun c47 => ?_) (fun c47 => ?_)
                        · have hf := (if_neg c47).symm.trans hf
                          refine lv_iinc (v := (x38 + 1)) (lv' := [(7, .int (x38 + 1)), (0, .ref (a 0)), (1, .int p1), (2, .int p2), (3, .int p3), (4, .int p4), (5, .int x7), (6, .int z13.1)]) hx hb dX9_reachesOn_129 hl (k := 7) rfl rfl (by decide) rfl (fun ls hl => ?_)
                          refine lv_goto (tgt := 76) hx hb dX9_reachesOn_132 (by decide) ?_
                          exact ih40 (x38 + 1) z44.2 hf H locs ls hP hD hS (lv_sub hl [1, 2, 3, 4, 5, 6, 7, 0] rfl)
                        · have hf := (if_pos c47).symm.trans hf
                          exact J1 x7 x38 z44.2 hf H locs ls hP hD hS (lv_sub hl [4, 5, 7] rfl))
              exact L40 1000 0 z13.2 hf H locs ls hP hD hS (lv_sub hl [2, 3, 4, 5, 6, 7, 1, 0] rfl)
            · have hf := (if_pos c37).symm.trans hf
              exact J2 x7 z13.2 hf H locs ls hP hD hS (lv_sub hl [5, 6] rfl))
    exact L11 1000 0 σ hf H locs ls hP hD hS (lv_sub hl [1, 2, 3, 4, 5, 0] rfl)
  · have hf := (if_pos c1).symm.trans hf
    refine lv_aload_n hx hb dX9_reachesOn_5 rfl (lv_at hl 0 rfl) ?_
    refine lv_iconst (v := 1) hx hb dX9_reachesOn_6 (by decide) ?_
    refine lv_iload_n hx hb dX9_reachesOn_7 rfl (lv_at hl 1 rfl) ?_
    refine lv_iload_n hx hb dX9_reachesOn_8 rfl (lv_at hl 2 rfl) ?_
    obtain ⟨z48, hz48, hf⟩ := obd hf
    refine cV_allI X (As := [.int 1, .int p1, .int p2]) (rest := []) (c_X9_touches l E a σ tr 1 p1 p2 hz48) pv_X9_touches ml_X9_144 ⟨rfl, rfl⟩ ⟨(Nat.le_of_ble_eq_true rfl), (Nat.le_of_ble_eq_true rfl)⟩ hP hD hS (wX9_g0_0 _ _ _ _) rfl (wX9_adr _ _ _ _ _ _) rfl hl.1 rfl (Nat.le_of_ble_eq_true rfl) dX9_reachesOn_9 ⟨Nat.le_refl _, Nat.le_refl _⟩ (fun H locs hP hD hS => ?_)
    refine lv_iconst (v := 1) hx hb dX9_reachesOn_12 (by decide) ?_
    refine lv_icmp_ne (tgt := 21) hx hb dX9_reachesOn_13 (by decide) (fun c49 => ?_) (fun c49 => ?_)
    · have hf := (if_neg c49).symm.trans hf
      refine lv_bipush (v := (-9)) hx hb dX9_reachesOn_21 (by decide) ?_
      have ho := Option.some.inj hf
      have hv : (-9) = out.1 := by rw [← ho]
      have hw := congrArg (fun o : Int32 × Sg => (wX9 E a o.2 tr)) ho
      exact r_iret X hr hP hS hv hw dX9_reachesOn_23
    · have hf := (if_pos c49).symm.trans hf
      refine lv_iload hx hb dX9_reachesOn_16 (lv_at hl 4 rfl) ?_
      refine lv_goto (tgt := 23) hx hb dX9_reachesOn_18 (by decide) ?_
      have ho := Option.some.inj hf
      have hv : p4 = out.1 := by rw [← ho]
      have hw := congrArg (fun o : Int32 × Sg => (wX9 E a o.2 tr)) ho
      exact r_iret X hr hP hS hv hw dX9_reachesOn_23
def rm_X9_reaches : Room := { frames := 4, cells := 0, slots := 0, locals := 108 }
theorem pv_X9_reaches : PkV RX9 yX9_reaches cX9_reaches 6 (some .int) 3 := ⟨im_X9_reaches, se_X9_reaches, ini_X9, cd_X9_reaches, by decide +kernel⟩
set_option maxHeartbeats 4000000 in
set_option maxRecDepth 100000 in
theorem c_X9_reaches (l : Launch) (E : Ev) (a : Nat → Nat) (σ : Sg) (tr : Int64) (p1 : Int32) (p2 : Int32) (p3 : Int32) {out : Int32 × Sg} (hf : f_X9_reaches σ tr p1 p2 p3 = some out) : MtI l yX9_reaches (wl yX9_reaches cX9_reaches 6 (some .int)) rm_X9_reaches E [.ref (a 0), .int p1, .int p2, .int p3] (wX9 E a σ tr) out.1 (wX9 E a out.2 tr) := by
  refine mt_of (QQ := (fun A => va_Qi (fun x (_ : Unit) => x = out.1) (fun _ t => QW E (wX9 E a out.2 tr) t) A)) (by decide) (Nat.le_of_ble_eq_true rfl) (fun p e s m below meth c A ls X hr hP hD hS hl => ?_)
  have hx := X.1.1
  have hb := X.1.2.1
  have hl : lv_has ls 6 [(0, .ref (a 0)), (1, .int p1), (2, .int p2), (3, .int p3)] := hl
  obtain ⟨H, hHe⟩ : ∃ H : Heap, H = s.heap := ⟨_, rfl⟩
  obtain ⟨locs, hLe⟩ : ∃ locs : List Loc, locs = [] := ⟨_, rfl⟩
  have hP : va_P E.1 vwCl (wX9 E a σ tr) H := by rw [hHe]; exact hP
  have hS : va_S A s.heap H locs := by rw [hHe, hLe]; exact hS
  rw [← hLe, show W p l e rm_X9_reaches s m ([.ref (a 0), .int p1, .int p2, .int p3] : List Value).toArray below meth c s.heap locs 0 0 = W p l e rm_X9_reaches s m ([.ref (a 0), .int p1, .int p2, .int p3] : List Value).toArray below meth c H locs 0 0 from by rw [hHe]]
  refine lv_iload_n hx hb dX9_reaches_0 rfl (lv_at hl 3 rfl) ?_
  refine lv_if_ne (tgt := 22) hx hb dX9_reaches_1 (by decide) (fun c1 => ?_) (fun c1 => ?_)
  · have hf := (if_neg c1).symm.trans hf
    refine lv_iconst (v := 0) hx hb dX9_reaches_22 (by decide) ?_
    refine lv_istore (lv' := [(4, .int 0), (0, .ref (a 0)), (1, .int p1), (2, .int p2), (3, .int p3)]) hx hb dX9_reaches_23 hl (by decide) rfl (fun ls hl => ?_)
    have L4 := lc2_ind (o := out) (step := (s_X9_reaches_25 tr p1 p2 p3)) (fun x2 g3 => ∀ (H : Heap) (locs : List Loc) (ls : Array Slot), va_P E.1 vwCl (wX9 E a g3 tr) H → va_D A (wX9 E a g3 tr) → va_S A s.heap H locs → lv_has ls 6 [(0, .ref (a 0)), (1, .int p1), (2, .int p2), (3, .int p3), (4, .int x2)] → W p l e rm_X9_reaches s m ([.ref (a 0), .int p1, .int p2, .int p3] : List Value).toArray below meth c H locs 0 0 (MQ below (va_Qi (fun x (_ : Unit) => x = out.1) (fun _ t => QW E (wX9 E a out.2 tr) t) A) ([.ref (a 0), .int p1, .int p2, .int p3] : List Value).toArray s 0 0 A) (F0 m 25 ls [])) (fun x2 g3 k4 ih4 hf H locs ls hP hD hS hl => by
      refine lv_iload hx hb dX9_reaches_25 (lv_at hl 4 rfl) ?_
      refine lv_bipush (v := 24) hx hb dX9_reaches_27 (by decide) ?_
      refine lv_icmp_ge (tgt := 74) hx hb dX9_reaches_29 (by decide) (fun c5 => ?_) (fun c5 => ?_)
      · have hf := (if_pos c5).symm.trans hf
        refine lv_bipush (v := (-9)) hx hb dX9_reaches_74 (by decide) ?_
        have ho := Option.some.inj hf
        have hv : (-9) = out.1 := by rw [← ho]
        have hw := congrArg (fun o : Int32 × Sg => (wX9 E a o.2 tr)) ho
        exact r_iret X hr hP hS hv hw dX9_reaches_76
      · have hf := (if_neg c5).symm.trans hf
        refine lv_aload_n hx hb dX9_reaches_32 rfl (lv_at hl 0 rfl) ?_
        refine lv_iconst (v := 0) hx hb dX9_reaches_33 (by decide) ?_
        refine lv_iload hx hb dX9_reaches_34 (lv_at hl 4 rfl) ?_
        obtain ⟨z6, hz6, hf⟩ := obd hf
        refine cV_allI X (As := [.int 0, .int x2]) (rest := []) (c_X9_folds l E a g3 tr 0 x2 hz6) pv_X9_folds ml_X9_136 ⟨rfl, rfl⟩ ⟨(Nat.le_of_ble_eq_true rfl), (Nat.le_of_ble_eq_true rfl)⟩ hP hD hS (wX9_g0_0 _ _ _ _) rfl (wX9_adr _ _ _ _ _ _) rfl hl.1 rfl (Nat.le_of_ble_eq_true rfl) dX9_reaches_36 ⟨Nat.le_refl _, Nat.le_refl _⟩ (fun H locs hP hD hS => ?_)
        have J1 : ∀ (x7 : Int32) (g8 : Sg), j_X9_reaches_1 x2 k4 x7 g8 = some out → ∀ (H : Heap) (locs : List Loc) (ls : Array Slot), va_P E.1 vwCl (wX9 E a g8 tr) H → va_D A (wX9 E a g8 tr) → va_S A s.heap H locs → lv_has ls 6 [(0, .ref (a 0)), (1, .int p1), (2, .int p2), (3, .int p3), (4, .int x2)] → W p l e rm_X9_reaches s m ([.ref (a 0), .int p1, .int p2, .int p3] : List Value).toArray below meth c H locs 0 0 (MQ below (va_Qi (fun x (_ : Unit) => x = out.1) (fun _ t => QW E (wX9 E a out.2 tr) t) A) ([.ref (a 0), .int p1, .int p2, .int p3] : List Value).toArray s 0 0 A) (F0 m 56 ls [.int x7]) := by
          intro x7 g8 hf H locs ls hP hD hS hl
          refine lv_istore (lv' := [(5, .int x7), (0, .ref (a 0)), (1, .int p1), (2, .int p2), (3, .int p3), (4, .int x2)]) hx hb dX9_reaches_56 hl (by decide) rfl (fun ls hl => ?_)
          refine lv_iload hx hb dX9_reaches_58 (lv_at hl 0 rfl) ?_
          refine lv_bipush (v := (-9)) hx hb dX9_reaches_60 (by decide) ?_
          refine lv_icmp_eq (tgt := 68) hx hb dX9_reaches_62 (by decide) (fun c9 => ?_) (fun c9 => ?_)
          · have hf := (if_pos c9).symm.trans hf
            refine lv_iinc (v := (x2 + 1)) (lv' := [(4, .int (x2 + 1)), (5, .int x7), (0, .ref (a 0)), (1, .int p1), (2, .int p2), (3, .int p3)]) hx hb dX9_reaches_68 hl (k := 5) rfl rfl (by decide) rfl (fun ls hl => ?_)
            refine lv_goto (tgt := 25) hx hb dX9_reaches_71 (by decide) ?_
            exact ih4 (x2 + 1) g8 hf H locs ls hP hD hS (lv_sub hl [2, 3, 4, 5, 0] rfl)
          · have hf := (if_neg c9).symm.trans hf
            refine lv_iload hx hb dX9_reaches_65 (lv_at hl 0 rfl) ?_
            have ho := Option.some.inj hf
            have hv : x7 = out.1 := by rw [← ho]
            have hw := congrArg (fun o : Int32 × Sg => (wX9 E a o.2 tr)) ho
            exact r_iret X hr hP hS hv hw dX9_reaches_67
        refine lv_if_eq (tgt := 54) hx hb dX9_reaches_39 (by decide) (fun c10 => ?_) (fun c10 => ?_)
        · have hf := (if_pos c10).symm.trans hf
          refine lv_bipush (v := (-9)) hx hb dX9_reaches_54 (by decide) ?_
          exact J1 (-9) z6.2 hf H locs ls hP hD hS (lv_sub hl [0, 1, 2, 3, 4] rfl)
        · have hf := (if_neg c10).symm.trans hf
          refine lv_aload_n hx hb dX9_reaches_42 rfl (lv_at hl 0 rfl) ?_
          refine lv_iload_n hx hb dX9_reaches_43 rfl (lv_at hl 1 rfl) ?_
          refine lv_iload_n hx hb dX9_reaches_44 rfl (lv_at hl 2 rfl) ?_
          refine lv_iload_n hx hb dX9_reaches_45 rfl (lv_at hl 3 rfl) ?_
          refine lv_iload hx hb dX9_reaches_46 (lv_at hl 4 rfl) ?_
          obtain ⟨z11, hz11, hf⟩ := obd hf
          refine cV_allI X (As := [.int p1, .int p2, .int p3, .int x2]) (rest := []) (c_X9_reachesOn l E a z6.2 tr p1 p2 p3 x2 hz11) pv_X9_reachesOn ml_X9_170 ⟨rfl, rfl⟩ ⟨(Nat.le_of_ble_eq_true rfl), (Nat.le_of_ble_eq_true rfl)⟩ hP hD hS (wX9_g0_0 _ _ _ _) rfl (wX9_adr _ _ _ _ _ _) rfl hl.1 rfl (Nat.le_of_ble_eq_true rfl) dX9_reaches_48 ⟨Nat.le_refl _, Nat.le_refl _⟩ (fun H locs hP hD hS => ?_)
          refine lv_goto (tgt := 56) hx hb dX9_reaches_51 (by decide) ?_
          exact J1 z11.1 z11.2 hf H locs ls hP hD hS (lv_sub hl [0, 1, 2, 3, 4] rfl))
    exact L4 1000 0 σ hf H locs ls hP hD hS (lv_sub hl [1, 2, 3, 4, 0] rfl)
  · have hf := (if_pos c1).symm.trans hf
    refine lv_aload_n hx hb dX9_reaches_4 rfl (lv_at hl 0 rfl) ?_
    refine lv_iconst (v := 0) hx hb dX9_reaches_5 (by decide) ?_
    refine lv_iload_n hx hb dX9_reaches_6 rfl (lv_at hl 1 rfl) ?_
    refine lv_iload_n hx hb dX9_reaches_7 rfl (lv_at hl 2 rfl) ?_
    obtain ⟨z12, hz12, hf⟩ := obd hf
    refine cV_allI X (As := [.int 0, .int p1, .int p2]) (rest := []) (c_X9_touches l E a σ tr 0 p1 p2 hz12) pv_X9_touches ml_X9_144 ⟨rfl, rfl⟩ ⟨(Nat.le_of_ble_eq_true rfl), (Nat.le_of_ble_eq_true rfl)⟩ hP hD hS (wX9_g0_0 _ _ _ _) rfl (wX9_adr _ _ _ _ _ _) rfl hl.1 rfl (Nat.le_of_ble_eq_true rfl) dX9_reaches_8 ⟨Nat.le_refl _, Nat.le_refl _⟩ (fun H locs hP hD hS => ?_)
    refine lv_iconst (v := 1) hx hb dX9_reaches_11 (by decide) ?_
    refine lv_icmp_ne (tgt := 19) hx hb dX9_reaches_12 (by decide) (fun c13 => ?_) (fun c13 => ?_)
    · have hf := (if_neg c13).symm.trans hf
      refine lv_bipush (v := (-9)) hx hb dX9_reaches_19 (by decide) ?_
      have ho := Option.some.inj hf
      have hv : (-9) = out.1 := by rw [← ho]
      have hw := congrArg (fun o : Int32 × Sg => (wX9 E a o.2 tr)) ho
      exact r_iret X hr hP hS hv hw dX9_reaches_21
    · have hf := (if_pos c13).symm.trans hf
      refine lv_iconst (v := 0) hx hb dX9_reaches_15 (by decide) ?_
      refine lv_goto (tgt := 21) hx hb dX9_reaches_16 (by decide) ?_
      have ho := Option.some.inj hf
      have hv : 0 = out.1 := by rw [← ho]
      have hw := congrArg (fun o : Int32 × Sg => (wX9 E a o.2 tr)) ho
      exact r_iret X hr hP hS hv hw dX9_reaches_21
def rm_X9_reach : Room := { frames := 5, cells := 0, slots := 0, locals := 133 }
theorem pv_X9_reach : PkV RX9 yX9_reach cX9_reach 6 (some .int) 3 := ⟨im_X9_reach, se_X9_reach, ini_X9, cd_X9_reach, by decide +kernel⟩
set_option maxHeartbeats 4000000 in
set_option maxRecDepth 100000 in
theorem c_X9_reach (l : Launch) (E : Ev) (a : Nat → Nat) (σ : Sg) (tr : Int64) (p1 : Int32) (p2 : Int32) (p3 : Int32) {out : Int32 × Sg} (hf : f_X9_reach σ tr p1 p2 p3 = some out) : MtI l yX9_reach (wl yX9_reach cX9_reach 6 (some .int)) rm_X9_reach E [.ref (a 0), .int p1, .int p2, .int p3] (wX9 E a σ tr) out.1 (wX9 E a out.2 tr) := by
  refine mt_of (QQ := (fun A => va_Qi (fun x (_ : Unit) => x = out.1) (fun _ t => QW E (wX9 E a out.2 tr) t) A)) (by decide) (Nat.le_of_ble_eq_true rfl) (fun p e s m below meth c A ls X hr hP hD hS hl => ?_)
  have hx := X.1.1
  have hb := X.1.2.1
  have hl : lv_has ls 6 [(0, .ref (a 0)), (1, .int p1), (2, .int p2), (3, .int p3)] := hl
  obtain ⟨H, hHe⟩ : ∃ H : Heap, H = s.heap := ⟨_, rfl⟩
  obtain ⟨locs, hLe⟩ : ∃ locs : List Loc, locs = [] := ⟨_, rfl⟩
  have hP : va_P E.1 vwCl (wX9 E a σ tr) H := by rw [hHe]; exact hP
  have hS : va_S A s.heap H locs := by rw [hHe, hLe]; exact hS
  rw [← hLe, show W p l e rm_X9_reach s m ([.ref (a 0), .int p1, .int p2, .int p3] : List Value).toArray below meth c s.heap locs 0 0 = W p l e rm_X9_reach s m ([.ref (a 0), .int p1, .int p2, .int p3] : List Value).toArray below meth c H locs 0 0 from by rw [hHe]]
  refine lv_aload_n hx hb dX9_reach_0 rfl (lv_at hl 0 rfl) ?_
  refine lv_iload_n hx hb dX9_reach_1 rfl (lv_at hl 1 rfl) ?_
  refine lv_iload_n hx hb dX9_reach_2 rfl (lv_at hl 2 rfl) ?_
  obtain ⟨z1, hz1, hf⟩ := obd hf
  refine cV_allI X (As := [.int p1, .int p2]) (rest := []) (c_X9_areTwo l E a σ tr p1 p2 hz1) pv_X9_areTwo ml_X9_167 ⟨rfl, rfl⟩ ⟨(Nat.le_of_ble_eq_true rfl), (Nat.le_of_ble_eq_true rfl)⟩ hP hD hS (wX9_g0_0 _ _ _ _) rfl (wX9_adr _ _ _ _ _ _) rfl hl.1 rfl (Nat.le_of_ble_eq_true rfl) dX9_reach_3 ⟨Nat.le_refl _, Nat.le_refl _⟩ (fun H locs hP hD hS => ?_)
  refine lv_if_eq (tgt := 14) hx hb dX9_reach_6 (by decide) (fun c2 => ?_) (fun c2 => ?_)
  · have hf := (if_pos c2).symm.trans hf
    refine lv_iconst (v := (-1)) hx hb dX9_reach_14 (by decide) ?_
    have ho := Option.some.inj hf
    have hv : (-1) = out.1 := by rw [← ho]
    have hw := congrArg (fun o : Int32 × Sg => (wX9 E a o.2 tr)) ho
    exact r_iret X hr hP hS hv hw dX9_reach_15
  · have hf := (if_neg c2).symm.trans hf
    refine lv_iload_n hx hb dX9_reach_9 rfl (lv_at hl 3 rfl) ?_
    refine lv_iconst (v := (-1)) hx hb dX9_reach_10 (by decide) ?_
    refine lv_icmp_ge (tgt := 16) hx hb dX9_reach_11 (by decide) (fun c3 => ?_) (fun c3 => ?_)
    · have hf := (if_pos c3).symm.trans hf
      refine lv_aload_n hx hb dX9_reach_16 rfl (lv_at hl 0 rfl) ?_
      refine lv_aload_n hx hb dX9_reach_17 rfl (lv_at hl 0 rfl) ?_
      refine r_get X hP 0 (wX9_g0_0 _ _ _ _) rfl inc_X9 5 (by decide) fl_X9_19 rfl dX9_reach_18 ?_
      refine lv_iconst (v := 1) hx hb dX9_reach_21 (by decide) ?_
      obtain ⟨h4, hf⟩ := chk_in hf
      refine r_iald X hP 4 (wX9_g0_4 _ _ _ _) h4 dX9_reach_22 ?_
      obtain ⟨z5, hz5, hf⟩ := obd hf
      refine cV_allV X (As := [.int (σ 4 (1 : Int32).toNatClampNeg)]) (rest := []) (c_X9_now l E a σ tr (σ 4 (1 : Int32).toNatClampNeg) hz5) pv_X9_now ml_X9_148 ⟨rfl, rfl⟩ ⟨(Nat.le_of_ble_eq_true rfl), (Nat.le_of_ble_eq_true rfl)⟩ hP hD hS (wX9_g0_0 _ _ _ _) rfl (wX9_adr _ _ _ _ _ _) rfl hl.1 rfl (Nat.le_of_ble_eq_true rfl) dX9_reach_23 ⟨Nat.le_refl _, Nat.le_refl _⟩ (fun H locs hP hD hS => ?_)
      refine lv_iconst (v := 0) hx hb dX9_reach_26 (by decide) ?_
      refine lv_istore (lv' := [(4, .int 0), (0, .ref (a 0)), (1, .int p1), (2, .int p2), (3, .int p3)]) hx hb dX9_reach_27 hl (by decide) rfl (fun ls hl => ?_)
      have J1 : ∀ (x6 : Int32) (x7 : Int32) (g8 : Sg), j_X9_reach_1 p3 x6 x7 g8 = some out → ∀ (H : Heap) (locs : List Loc) (ls : Array Slot), va_P E.1 vwCl (wX9 E a g8 tr) H → va_D A (wX9 E a g8 tr) → va_S A s.heap H locs → lv_has ls 6 [(3, .int p3), (4, .int x6), (5, .int x7)] → W p l e rm_X9_reach s m ([.ref (a 0), .int p1, .int p2, .int p3] : List Value).toArray below meth c H locs 0 0 (MQ below (va_Qi (fun x (_ : Unit) => x = out.1) (fun _ t => QW E (wX9 E a out.2 tr) t) A) ([.ref (a 0), .int p1, .int p2, .int p3] : List Value).toArray s 0 0 A) (F0 m 52 ls []) := by
        intro x6 x7 g8 hf H locs ls hP hD hS hl
        refine lv_iload_n hx hb dX9_reach_52 rfl (lv_at hl 0 rfl) ?_
        refine lv_iconst (v := (-1)) hx hb dX9_reach_53 (by decide) ?_
        refine lv_icmp_ne (tgt := 62) hx hb dX9_reach_54 (by decide) (fun c9 => ?_) (fun c9 => ?_)
        · have hf := (if_neg c9).symm.trans hf
          refine lv_iload hx hb dX9_reach_62 (lv_at hl 2 rfl) ?_
          refine lv_iload hx hb dX9_reach_64 (lv_at hl 1 rfl) ?_
          refine lv_iload_n hx hb dX9_reach_66 rfl (lv_at hl 0 rfl) ?_
          obtain ⟨z10, hz10, hf⟩ := obd hf
          refine cS_roI X (As := [.int x7, .int x6, .int p3]) (rest := []) (c_X9_member l E x7 x6 p3 hz10) ps_X9_member ml_X9_177 ⟨rfl, rfl⟩ ⟨(Nat.le_of_ble_eq_true rfl), (Nat.le_of_ble_eq_true rfl)⟩ hP hD hS (is := []) (wc := []) rfl rfl rfl hl.1 rfl (Nat.le_of_ble_eq_true rfl) dX9_reach_67 ⟨Nat.le_refl _, Nat.le_refl _⟩ (fun H locs hP hS => ?_)
          have ho := Option.some.inj hf
          have hv : z10 = out.1 := by rw [← ho]
          have hw := congrArg (fun o : Int32 × Sg => (wX9 E a o.2 tr)) ho
          exact r_iret X hr hP hS hv hw dX9_reach_70
        · have hf := (if_pos c9).symm.trans hf
          refine lv_iload hx hb dX9_reach_57 (lv_at hl 1 rfl) ?_
          refine lv_goto (tgt := 70) hx hb dX9_reach_59 (by decide) ?_
          have ho := Option.some.inj hf
          have hv : x6 = out.1 := by rw [← ho]
          have hw := congrArg (fun o : Int32 × Sg => (wX9 E a o.2 tr)) ho
          exact r_iret X hr hP hS hv hw dX9_reach_70
      have L14 := lc2_ind (o := out) (step := (s_X9_reach_29 tr p1 p2 (j_X9_reach_1 p3))) (fun x11 g12 => ∀ (H : Heap) (locs : List Loc) (ls : Array Slot), va_P E.1 vwCl (wX9 E a g12 tr) H → va_D A (wX9 E a g12 tr) → va_S A s.heap H locs → lv_has ls 6 [(0, .ref (a 0)), (1, .int p1), (2, .int p2), (3, .int p3), (4, .int x11)] → W p l e rm_X9_reach s m ([.ref (a 0), .int p1, .int p2, .int p3] : List Value).toArray below meth c H locs 0 0 (MQ below (va_Qi (fun x (_ : Unit) => x = out.1) (fun _ t => QW E (wX9 E a out.2 tr) t) A) ([.ref (a 0), .int p1, .int p2, .int p3] : List Value).toArray s 0 0 A) (F0 m 29 ls [])) (fun x11 g12 k13 ih14 hf H locs ls hP hD hS hl => by
        refine lv_iload hx hb dX9_reach_29 (lv_at hl 4 rfl) ?_
        refine lv_iconst (v := 4) hx hb dX9_reach_31 (by decide) ?_
        refine lv_icmp_ge (tgt := 77) hx hb dX9_reach_32 (by decide) (fun c15 => ?_) (fun c15 => ?_)
        · have hf := (if_pos c15).symm.trans hf
          refine lv_bipush (v := (-9)) hx hb dX9_reach_77 (by decide) ?_
          have ho := Option.some.inj hf
          have hv : (-9) = out.1 := by rw [← ho]
          have hw := congrArg (fun o : Int32 × Sg => (wX9 E a o.2 tr)) ho
          exact r_iret X hr hP hS hv hw dX9_reach_79
        · have hf := (if_neg c15).symm.trans hf
          refine lv_aload_n hx hb dX9_reach_35 rfl (lv_at hl 0 rfl) ?_
          refine lv_iload_n hx hb dX9_reach_36 rfl (lv_at hl 1 rfl) ?_
          refine lv_iload_n hx hb dX9_reach_37 rfl (lv_at hl 2 rfl) ?_
          refine lv_iload hx hb dX9_reach_38 (lv_at hl 4 rfl) ?_
          obtain ⟨z16, hz16, hf⟩ := obd hf
          refine cV_allI X (As := [.int p1, .int p2, .int x11]) (rest := []) (c_X9_reaches l E a g12 tr p1 p2 x11 hz16) pv_X9_reaches ml_X9_174 ⟨rfl, rfl⟩ ⟨(Nat.le_of_ble_eq_true rfl), (Nat.le_of_ble_eq_true rfl)⟩ hP hD hS (wX9_g0_0 _ _ _ _) rfl (wX9_adr _ _ _ _ _ _) rfl hl.1 rfl (Nat.le_of_ble_eq_true rfl) dX9_reach_40 ⟨Nat.le_refl _, Nat.le_refl _⟩ (fun H locs hP hD hS => ?_)
          refine lv_istore (lv' := [(5, .int z16.1), (0, .ref (a 0)), (1, .int p1), (2, .int p2), (3, .int p3), (4, .int x11)]) hx hb dX9_reach_43 hl (by decide) rfl (fun ls hl => ?_)
          refine lv_iload hx hb dX9_reach_45 (lv_at hl 0 rfl) ?_
          refine lv_bipush (v := (-9)) hx hb dX9_reach_47 (by decide) ?_
          refine lv_icmp_eq (tgt := 71) hx hb dX9_reach_49 (by decide) (fun c17 => ?_) (fun c17 => ?_)
          · have hf := (if_pos c17).symm.trans hf
            refine lv_iinc (v := (x11 + 1)) (lv' := [(4, .int (x11 + 1)), (5, .int z16.1), (0, .ref (a 0)), (1, .int p1), (2, .int p2), (3, .int p3)]) hx hb dX9_reach_71 hl (k := 5) rfl rfl (by decide) rfl (fun ls hl => ?_)
            refine lv_goto (tgt := 29) hx hb dX9_reach_74 (by decide) ?_
            exact ih14 (x11 + 1) z16.2 hf H locs ls hP hD hS (lv_sub hl [2, 3, 4, 5, 0] rfl)
          · have hf := (if_neg c17).symm.trans hf
            exact J1 x11 z16.1 z16.2 hf H locs ls hP hD hS (lv_sub hl [4, 5, 0] rfl))
      exact L14 1000 0 z5 hf H locs ls hP hD hS (lv_sub hl [1, 2, 3, 4, 0] rfl)
    · have hf := (if_neg c3).symm.trans hf
      refine lv_iconst (v := (-1)) hx hb dX9_reach_14 (by decide) ?_
      have ho := Option.some.inj hf
      have hv : (-1) = out.1 := by rw [← ho]
      have hw := congrArg (fun o : Int32 × Sg => (wX9 E a o.2 tr)) ho
      exact r_iret X hr hP hS hv hw dX9_reach_15
def rm_X9_saw : Room := { frames := 3, cells := 0, slots := 0, locals := 65 }
theorem pv_X9_saw : PkV RX9 yX9_saw cX9_saw 3 (some .int) 2 := ⟨im_X9_saw, se_X9_saw, ini_X9, cd_X9_saw, by decide +kernel⟩
set_option maxHeartbeats 4000000 in
set_option maxRecDepth 100000 in
theorem c_X9_saw (l : Launch) (E : Ev) (a : Nat → Nat) (σ : Sg) (tr : Int64) (p1 : Int32) (p2 : Int32) {out : Int32 × Sg} (hf : f_X9_saw σ tr p1 p2 = some out) : MtI l yX9_saw (wl yX9_saw cX9_saw 3 (some .int)) rm_X9_saw E [.ref (a 0), .int p1, .int p2] (wX9 E a σ tr) out.1 (wX9 E a out.2 tr) := by
  refine mt_of (QQ := (fun A => va_Qi (fun x (_ : Unit) => x = out.1) (fun _ t => QW E (wX9 E a out.2 tr) t) A)) (by decide) (Nat.le_of_ble_eq_true rfl) (fun p e s m below meth c A ls X hr hP hD hS hl => ?_)
  have hx := X.1.1
  have hb := X.1.2.1
  have hl : lv_has ls 3 [(0, .ref (a 0)), (1, .int p1), (2, .int p2)] := hl
  obtain ⟨H, hHe⟩ : ∃ H : Heap, H = s.heap := ⟨_, rfl⟩
  obtain ⟨locs, hLe⟩ : ∃ locs : List Loc, locs = [] := ⟨_, rfl⟩
  have hP : va_P E.1 vwCl (wX9 E a σ tr) H := by rw [hHe]; exact hP
  have hS : va_S A s.heap H locs := by rw [hHe, hLe]; exact hS
  rw [← hLe, show W p l e rm_X9_saw s m ([.ref (a 0), .int p1, .int p2] : List Value).toArray below meth c s.heap locs 0 0 = W p l e rm_X9_saw s m ([.ref (a 0), .int p1, .int p2] : List Value).toArray below meth c H locs 0 0 from by rw [hHe]]
  refine lv_aload_n hx hb dX9_saw_0 rfl (lv_at hl 0 rfl) ?_
  refine lv_iload_n hx hb dX9_saw_1 rfl (lv_at hl 1 rfl) ?_
  refine lv_iload_n hx hb dX9_saw_2 rfl (lv_at hl 2 rfl) ?_
  obtain ⟨z1, hz1, hf⟩ := obd hf
  refine cV_allI X (As := [.int p1, .int p2]) (rest := []) (c_X9_areTwo l E a σ tr p1 p2 hz1) pv_X9_areTwo ml_X9_167 ⟨rfl, rfl⟩ ⟨(Nat.le_of_ble_eq_true rfl), (Nat.le_of_ble_eq_true rfl)⟩ hP hD hS (wX9_g0_0 _ _ _ _) rfl (wX9_adr _ _ _ _ _ _) rfl hl.1 rfl (Nat.le_of_ble_eq_true rfl) dX9_saw_3 ⟨Nat.le_refl _, Nat.le_refl _⟩ (fun H locs hP hD hS => ?_)
  refine lv_if_ne (tgt := 11) hx hb dX9_saw_6 (by decide) (fun c2 => ?_) (fun c2 => ?_)
  · have hf := (if_neg c2).symm.trans hf
    refine lv_aload_n hx hb dX9_saw_11 rfl (lv_at hl 0 rfl) ?_
    refine r_get X hP 0 (wX9_g0_0 _ _ _ _) rfl inc_X9 10 (by decide) fl_X9_126 rfl dX9_saw_12 ?_
    refine lv_bipush (v := 6) hx hb dX9_saw_15 (by decide) ?_
    refine lv_icmp_ne (tgt := 23) hx hb dX9_saw_17 (by decide) (fun c3 => ?_) (fun c3 => ?_)
    · have hf := (if_neg c3).symm.trans hf
      refine lv_aload_n hx hb dX9_saw_23 rfl (lv_at hl 0 rfl) ?_
      refine r_get X hP 0 (wX9_g0_0 _ _ _ _) rfl inc_X9 8 (by decide) fl_X9_29 rfl dX9_saw_24 ?_
      refine lv_aload_n hx hb dX9_saw_27 rfl (lv_at hl 0 rfl) ?_
      refine r_get X hP 0 (wX9_g0_0 _ _ _ _) rfl inc_X9 10 (by decide) fl_X9_126 rfl dX9_saw_28 ?_
      refine lv_iload_n hx hb dX9_saw_31 rfl (lv_at hl 1 rfl) ?_
      obtain ⟨h4, hf⟩ := chk_in hf
      refine r_iast X hP hD hS 7 (wX9_g0_7 _ _ _ _) h4 (wX9_t0_7 _ _ _ _ _ _) dX9_saw_32 (fun H locs hP hD hS => ?_)
      refine lv_aload_n hx hb dX9_saw_33 rfl (lv_at hl 0 rfl) ?_
      refine r_get X hP 0 (wX9_g0_0 _ _ _ _) rfl inc_X9 9 (by decide) fl_X9_32 rfl dX9_saw_34 ?_
      refine lv_aload_n hx hb dX9_saw_37 rfl (lv_at hl 0 rfl) ?_
      refine r_get X hP 0 (wX9_g0_0 _ _ _ _) rfl inc_X9 10 (by decide) fl_X9_126 rfl dX9_saw_38 ?_
      refine lv_iload_n hx hb dX9_saw_41 rfl (lv_at hl 2 rfl) ?_
      obtain ⟨h5, hf⟩ := chk_in hf
      refine r_iast X hP hD hS 8 (wX9_g0_8 _ _ _ _) h5 (wX9_t0_8 _ _ _ _ _ _) dX9_saw_42 (fun H locs hP hD hS => ?_)
      refine lv_aload_n hx hb dX9_saw_43 rfl (lv_at hl 0 rfl) ?_
      refine lv_dup hx hb dX9_saw_44 rfl ?_
      refine r_get X hP 0 (wX9_g0_0 _ _ _ _) rfl inc_X9 10 (by decide) fl_X9_126 rfl dX9_saw_45 ?_
      refine lv_iconst (v := 1) hx hb dX9_saw_48 (by decide) ?_
      refine lv_iadd hx hb dX9_saw_49 ?_
      refine r_put X hP hD hS 0 (wX9_g0_0 _ _ _ _) rfl inc_X9 tyX9 tyX9_ok nmX9 10 (by decide) fl_X9_126 rfl (ty := .int) rfl rfl rfl (Nat.le_of_ble_eq_true rfl) (wX9_s0_0_10 _ _ _ _ _) dX9_saw_50 (fun H locs hP hD hS => ?_)
      refine lv_aload_n hx hb dX9_saw_53 rfl (lv_at hl 0 rfl) ?_
      refine r_get X hP 0 (wX9_g0_0 _ _ _ _) rfl inc_X9 10 (by decide) fl_X9_126 rfl dX9_saw_54 ?_
      have ho := Option.some.inj hf
      have hv : ((sg_st (sg_st (sg_st σ 7 ((σ 0 10) : Int32).toNatClampNeg p1) 8 (((sg_st σ 7 ((σ 0 10) : Int32).toNatClampNeg p1) 0 10) : Int32).toNatClampNeg p2) 0 10 (((sg_st (sg_st σ 7 ((σ 0 10) : Int32).toNatClampNeg p1) 8 (((sg_st σ 7 ((σ 0 10) : Int32).toNatClampNeg p1) 0 10) : Int32).toNatClampNeg p2) 0 10) + 1)) 0 10) = out.1 := by rw [← ho]
      have hw := congrArg (fun o : Int32 × Sg => (wX9 E a o.2 tr)) ho
      exact r_iret X hr hP hS hv hw dX9_saw_57
    · have hf := (if_pos c3).symm.trans hf
      refine lv_bipush (v := (-3)) hx hb dX9_saw_20 (by decide) ?_
      have ho := Option.some.inj hf
      have hv : (-3) = out.1 := by rw [← ho]
      have hw := congrArg (fun o : Int32 × Sg => (wX9 E a o.2 tr)) ho
      exact r_iret X hr hP hS hv hw dX9_saw_22
  · have hf := (if_pos c2).symm.trans hf
    refine lv_iconst (v := (-1)) hx hb dX9_saw_9 (by decide) ?_
    have ho := Option.some.inj hf
    have hv : (-1) = out.1 := by rw [← ho]
    have hw := congrArg (fun o : Int32 × Sg => (wX9 E a o.2 tr)) ho
    exact r_iret X hr hP hS hv hw dX9_saw_10
def rm_X9_tries : Room := { frames := 2, cells := 0, slots := 0, locals := 53 }
theorem pv_X9_tries : PkV RX9 yX9_tries cX9_tries 5 none 3 := ⟨im_X9_tries, se_X9_tries, ini_X9, cd_X9_tries, by decide +kernel⟩
set_option maxHeartbeats 4000000 in
set_option maxRecDepth 100000 in
theorem c_X9_tries (l : Launch) (E : Ev) (a : Nat → Nat) (σ : Sg) (tr : Int64) (p1 : Int32) (p2 : Int32) (p3 : Int32) {out : Sg} (hf : f_X9_tries σ tr p1 p2 p3 = some out) : MtV l yX9_tries (wl yX9_tries cX9_tries 5 none) rm_X9_tries E [.ref (a 0), .int p1, .int p2, .int p3] (wX9 E a σ tr) (wX9 E a out tr) := by
  refine mt_of (QQ := (fun A => va_Qv (fun _ : Unit => True) (fun _ t => QW E (wX9 E a out tr) t) A)) (by decide) (Nat.le_of_ble_eq_true rfl) (fun p e s m below meth c A ls X hr hP hD hS hl => ?_)
  have hx := X.1.1
  have hb := X.1.2.1
  have hl : lv_has ls 5 [(0, .ref (a 0)), (1, .int p1), (2, .int p2), (3, .int p3)] := hl
  obtain ⟨H, hHe⟩ : ∃ H : Heap, H = s.heap := ⟨_, rfl⟩
  obtain ⟨locs, hLe⟩ : ∃ locs : List Loc, locs = [] := ⟨_, rfl⟩
  have hP : va_P E.1 vwCl (wX9 E a σ tr) H := by rw [hHe]; exact hP
  have hS : va_S A s.heap H locs := by rw [hHe, hLe]; exact hS
  rw [← hLe, show W p l e rm_X9_tries s m ([.ref (a 0), .int p1, .int p2, .int p3] : List Value).toArray below meth c s.heap locs 0 0 = W p l e rm_X9_tries s m ([.ref (a 0), .int p1, .int p2, .int p3] : List Value).toArray below meth c H locs 0 0 from by rw [hHe]]
  refine lv_aload_n hx hb dX9_tries_0 rfl (lv_at hl 0 rfl) ?_
  refine lv_iload_n hx hb dX9_tries_1 rfl (lv_at hl 1 rfl) ?_
  refine lv_iload_n hx hb dX9_tries_2 rfl (lv_at hl 2 rfl) ?_
  obtain ⟨z1, hz1, hf⟩ := obd hf
  refine cV_allI X (As := [.int p1, .int p2]) (rest := []) (c_X9_gain l E a σ tr p1 p2 hz1) pv_X9_gain ml_X9_151 ⟨rfl, rfl⟩ ⟨(Nat.le_of_ble_eq_true rfl), (Nat.le_of_ble_eq_true rfl)⟩ hP hD hS (wX9_g0_0 _ _ _ _) rfl (wX9_adr _ _ _ _ _ _) rfl hl.1 rfl (Nat.le_of_ble_eq_true rfl) dX9_tries_3 ⟨Nat.le_refl _, Nat.le_refl _⟩ (fun H locs hP hD hS => ?_)
  refine lv_istore (lv' := [(4, .int z1), (0, .ref (a 0)), (1, .int p1), (2, .int p2), (3, .int p3)]) hx hb dX9_tries_6 hl (by decide) rfl (fun ls hl => ?_)
  refine lv_iload hx hb dX9_tries_8 (lv_at hl 0 rfl) ?_
  refine lv_aload_n hx hb dX9_tries_10 rfl (lv_at hl 1 rfl) ?_
  refine r_get X hP 0 (wX9_g0_0 _ _ _ _) rfl inc_X9 19 (by decide) fl_X9_180 rfl dX9_tries_11 ?_
  have J1 : j_X9_tries_1 σ p1 p3 z1 = some out → ∀ (H : Heap) (locs : List Loc) (ls : Array Slot), va_P E.1 vwCl (wX9 E a σ tr) H → va_D A (wX9 E a σ tr) → va_S A s.heap H locs → lv_has ls 5 [(0, .ref (a 0)), (1, .int p1), (3, .int p3), (4, .int z1)] → W p l e rm_X9_tries s m ([.ref (a 0), .int p1, .int p2, .int p3] : List Value).toArray below meth c H locs 0 0 (MQ below (va_Qv (fun _ : Unit => True) (fun _ t => QW E (wX9 E a out tr) t) A) ([.ref (a 0), .int p1, .int p2, .int p3] : List Value).toArray s 0 0 A) (F0 m 34 ls []) := by
    intro hf H locs ls hP hD hS hl
    refine lv_aload_n hx hb dX9_tries_34 rfl (lv_at hl 0 rfl) ?_
    refine lv_iload hx hb dX9_tries_35 (lv_at hl 3 rfl) ?_
    refine r_put X hP hD hS 0 (wX9_g0_0 _ _ _ _) rfl inc_X9 tyX9 tyX9_ok nmX9 19 (by decide) fl_X9_180 rfl (ty := .int) rfl rfl rfl (Nat.le_of_ble_eq_true rfl) (wX9_s0_0_19 _ _ _ _ _) dX9_tries_37 (fun H locs hP hD hS => ?_)
    refine lv_aload_n hx hb dX9_tries_40 rfl (lv_at hl 0 rfl) ?_
    refine lv_iload_n hx hb dX9_tries_41 rfl (lv_at hl 1 rfl) ?_
    refine r_put X hP hD hS 0 (wX9_g0_0 _ _ _ _) rfl inc_X9 tyX9 tyX9_ok nmX9 20 (by decide) fl_X9_183 rfl (ty := .int) rfl rfl rfl (Nat.le_of_ble_eq_true rfl) (wX9_s0_0_20 _ _ _ _ _) dX9_tries_42 (fun H locs hP hD hS => ?_)
    refine lv_aload_n hx hb dX9_tries_45 rfl (lv_at hl 0 rfl) ?_
    refine lv_iload_n hx hb dX9_tries_46 rfl (lv_at hl 2 rfl) ?_
    refine r_put X hP hD hS 0 (wX9_g0_0 _ _ _ _) rfl inc_X9 tyX9 tyX9_ok nmX9 21 (by decide) fl_X9_186 rfl (ty := .int) rfl rfl rfl (Nat.le_of_ble_eq_true rfl) (wX9_s0_0_21 _ _ _ _ _) dX9_tries_47 (fun H locs hP hD hS => ?_)
    have ho := Option.some.inj hf
    have hw := congrArg (fun o : Sg => (wX9 E a o tr)) ho
    exact r_vret X hr hP hS hw dX9_tries_50
  refine lv_icmp_gt (tgt := 34) hx hb dX9_tries_14 (by decide) (fun c2 => ?_) (fun c2 => ?_)
  · have hf := (if_pos c2).symm.trans hf
    exact J1 hf H locs ls hP hD hS (lv_sub hl [1, 2, 4, 0] rfl)
  · have hf := (if_neg c2).symm.trans hf
    refine lv_iload hx hb dX9_tries_17 (lv_at hl 0 rfl) ?_
    refine lv_aload_n hx hb dX9_tries_19 rfl (lv_at hl 1 rfl) ?_
    refine r_get X hP 0 (wX9_g0_0 _ _ _ _) rfl inc_X9 19 (by decide) fl_X9_180 rfl dX9_tries_20 ?_
    refine lv_icmp_ne (tgt := 50) hx hb dX9_tries_23 (by decide) (fun c3 => ?_) (fun c3 => ?_)
    · have hf := (if_neg c3).symm.trans hf
      have ho := Option.some.inj hf
      have hw := congrArg (fun o : Sg => (wX9 E a o tr)) ho
      exact r_vret X hr hP hS hw dX9_tries_50
    · have hf := (if_pos c3).symm.trans hf
      refine lv_iload_n hx hb dX9_tries_26 rfl (lv_at hl 2 rfl) ?_
      refine lv_aload_n hx hb dX9_tries_27 rfl (lv_at hl 1 rfl) ?_
      refine r_get X hP 0 (wX9_g0_0 _ _ _ _) rfl inc_X9 20 (by decide) fl_X9_183 rfl dX9_tries_28 ?_
      refine lv_icmp_ge (tgt := 50) hx hb dX9_tries_31 (by decide) (fun c4 => ?_) (fun c4 => ?_)
      · have hf := (if_pos c4).symm.trans hf
        have ho := Option.some.inj hf
        have hw := congrArg (fun o : Sg => (wX9 E a o tr)) ho
        exact r_vret X hr hP hS hw dX9_tries_50
      · have hf := (if_neg c4).symm.trans hf
        exact J1 hf H locs ls hP hD hS (lv_sub hl [1, 2, 4, 0] rfl)
def rm_X9_serves : Room := { frames := 4, cells := 0, slots := 0, locals := 103 }
theorem pv_X9_serves : PkV RX9 yX9_serves cX9_serves 5 (some .int) 2 := ⟨im_X9_serves, se_X9_serves, ini_X9, cd_X9_serves, by decide +kernel⟩
set_option maxHeartbeats 4000000 in
set_option maxRecDepth 100000 in
theorem c_X9_serves (l : Launch) (E : Ev) (a : Nat → Nat) (σ : Sg) (tr : Int64) (p1 : Int32) (p2 : Int32) {out : Int32 × Sg} (hf : f_X9_serves σ tr p1 p2 = some out) : MtI l yX9_serves (wl yX9_serves cX9_serves 5 (some .int)) rm_X9_serves E [.ref (a 0), .int p1, .int p2] (wX9 E a σ tr) out.1 (wX9 E a out.2 tr) := by
  refine mt_of (QQ := (fun A => va_Qi (fun x (_ : Unit) => x = out.1) (fun _ t => QW E (wX9 E a out.2 tr) t) A)) (by decide) (Nat.le_of_ble_eq_true rfl) (fun p e s m below meth c A ls X hr hP hD hS hl => ?_)
  have hx := X.1.1
  have hb := X.1.2.1
  have hl : lv_has ls 5 [(0, .ref (a 0)), (1, .int p1), (2, .int p2)] := hl
  obtain ⟨H, hHe⟩ : ∃ H : Heap, H = s.heap := ⟨_, rfl⟩
  obtain ⟨locs, hLe⟩ : ∃ locs : List Loc, locs = [] := ⟨_, rfl⟩
  have hP : va_P E.1 vwCl (wX9 E a σ tr) H := by rw [hHe]; exact hP
  have hS : va_S A s.heap H locs := by rw [hHe, hLe]; exact hS
  rw [← hLe, show W p l e rm_X9_serves s m ([.ref (a 0), .int p1, .int p2] : List Value).toArray below meth c s.heap locs 0 0 = W p l e rm_X9_serves s m ([.ref (a 0), .int p1, .int p2] : List Value).toArray below meth c H locs 0 0 from by rw [hHe]]
  refine lv_aload_n hx hb dX9_serves_0 rfl (lv_at hl 0 rfl) ?_
  refine lv_iload_n hx hb dX9_serves_1 rfl (lv_at hl 1 rfl) ?_
  obtain ⟨z1, hz1, hf⟩ := obd hf
  refine cV_allI X (As := [.int p1]) (rest := []) (c_X9_isCell l E a σ tr p1 hz1) pv_X9_isCell ml_X9_59 ⟨rfl, rfl⟩ ⟨(Nat.le_of_ble_eq_true rfl), (Nat.le_of_ble_eq_true rfl)⟩ hP hD hS (wX9_g0_0 _ _ _ _) rfl (wX9_adr _ _ _ _ _ _) rfl hl.1 rfl (Nat.le_of_ble_eq_true rfl) dX9_serves_2 ⟨Nat.le_refl _, Nat.le_refl _⟩ (fun H locs hP hD hS => ?_)
  refine lv_if_eq (tgt := 13) hx hb dX9_serves_5 (by decide) (fun c2 => ?_) (fun c2 => ?_)
  · have hf := (if_pos c2).symm.trans hf
    refine lv_iconst (v := (-1)) hx hb dX9_serves_13 (by decide) ?_
    have ho := Option.some.inj hf
    have hv : (-1) = out.1 := by rw [← ho]
    have hw := congrArg (fun o : Int32 × Sg => (wX9 E a o.2 tr)) ho
    exact r_iret X hr hP hS hv hw dX9_serves_14
  · have hf := (if_neg c2).symm.trans hf
    refine lv_iload_n hx hb dX9_serves_8 rfl (lv_at hl 2 rfl) ?_
    refine lv_iconst (v := (-1)) hx hb dX9_serves_9 (by decide) ?_
    refine lv_icmp_ge (tgt := 15) hx hb dX9_serves_10 (by decide) (fun c3 => ?_) (fun c3 => ?_)
    · have hf := (if_pos c3).symm.trans hf
      refine lv_aload_n hx hb dX9_serves_15 rfl (lv_at hl 0 rfl) ?_
      refine lv_aload_n hx hb dX9_serves_16 rfl (lv_at hl 0 rfl) ?_
      refine r_get X hP 0 (wX9_g0_0 _ _ _ _) rfl inc_X9 5 (by decide) fl_X9_19 rfl dX9_serves_17 ?_
      refine lv_iconst (v := 1) hx hb dX9_serves_20 (by decide) ?_
      obtain ⟨h4, hf⟩ := chk_in hf
      refine r_iald X hP 4 (wX9_g0_4 _ _ _ _) h4 dX9_serves_21 ?_
      obtain ⟨z5, hz5, hf⟩ := obd hf
      refine cV_allV X (As := [.int (σ 4 (1 : Int32).toNatClampNeg)]) (rest := []) (c_X9_now l E a σ tr (σ 4 (1 : Int32).toNatClampNeg) hz5) pv_X9_now ml_X9_148 ⟨rfl, rfl⟩ ⟨(Nat.le_of_ble_eq_true rfl), (Nat.le_of_ble_eq_true rfl)⟩ hP hD hS (wX9_g0_0 _ _ _ _) rfl (wX9_adr _ _ _ _ _ _) rfl hl.1 rfl (Nat.le_of_ble_eq_true rfl) dX9_serves_22 ⟨Nat.le_refl _, Nat.le_refl _⟩ (fun H locs hP hD hS => ?_)
      refine lv_aload_n hx hb dX9_serves_25 rfl (lv_at hl 0 rfl) ?_
      refine lv_iconst (v := (-1)) hx hb dX9_serves_26 (by decide) ?_
      refine r_put X hP hD hS 0 (wX9_g0_0 _ _ _ _) rfl inc_X9 tyX9 tyX9_ok nmX9 19 (by decide) fl_X9_180 rfl (ty := .int) rfl rfl rfl (Nat.le_of_ble_eq_true rfl) (wX9_s0_0_19 _ _ _ _ _) dX9_serves_27 (fun H locs hP hD hS => ?_)
      refine lv_aload_n hx hb dX9_serves_30 rfl (lv_at hl 0 rfl) ?_
      refine lv_iconst (v := 0) hx hb dX9_serves_31 (by decide) ?_
      refine lv_iload_n hx hb dX9_serves_32 rfl (lv_at hl 1 rfl) ?_
      refine lv_iconst (v := 0) hx hb dX9_serves_33 (by decide) ?_
      obtain ⟨z6, hz6, hf⟩ := obd hf
      refine cV_allV X (As := [.int 0, .int p1, .int 0]) (rest := []) (c_X9_tries l E a (sg_st z5 0 19 (-1)) tr 0 p1 0 hz6) pv_X9_tries ml_X9_189 ⟨rfl, rfl⟩ ⟨(Nat.le_of_ble_eq_true rfl), (Nat.le_of_ble_eq_true rfl)⟩ hP hD hS (wX9_g0_0 _ _ _ _) rfl (wX9_adr _ _ _ _ _ _) rfl hl.1 rfl (Nat.le_of_ble_eq_true rfl) dX9_serves_34 ⟨Nat.le_refl _, Nat.le_refl _⟩ (fun H locs hP hD hS => ?_)
      refine lv_iconst (v := 0) hx hb dX9_serves_37 (by decide) ?_
      refine lv_istore_n (lv' := [(3, .int 0), (0, .ref (a 0)), (1, .int p1), (2, .int p2)]) hx hb dX9_serves_38 rfl hl (by decide) rfl (fun ls hl => ?_)
      have J1 : ∀ (g7 : Sg), j_X9_serves_1 p2 g7 = some out → ∀ (H : Heap) (locs : List Loc) (ls : Array Slot), va_P E.1 vwCl (wX9 E a g7 tr) H → va_D A (wX9 E a g7 tr) → va_S A s.heap H locs → lv_has ls 5 [(0, .ref (a 0)), (2, .int p2)] → W p l e rm_X9_serves s m ([.ref (a 0), .int p1, .int p2] : List Value).toArray below meth c H locs 0 0 (MQ below (va_Qi (fun x (_ : Unit) => x = out.1) (fun _ t => QW E (wX9 E a out.2 tr) t) A) ([.ref (a 0), .int p1, .int p2] : List Value).toArray s 0 0 A) (F0 m 106 ls []) := by
        intro g7 hf H locs ls hP hD hS hl
        refine lv_iload_n hx hb dX9_serves_106 rfl (lv_at hl 1 rfl) ?_
        refine lv_iconst (v := (-1)) hx hb dX9_serves_107 (by decide) ?_
        refine lv_icmp_ne (tgt := 118) hx hb dX9_serves_108 (by decide) (fun c8 => ?_) (fun c8 => ?_)
        · have hf := (if_neg c8).symm.trans hf
          refine lv_aload_n hx hb dX9_serves_118 rfl (lv_at hl 0 rfl) ?_
          refine r_get X hP 0 (wX9_g0_0 _ _ _ _) rfl inc_X9 21 (by decide) fl_X9_186 rfl dX9_serves_119 ?_
          refine lv_aload_n hx hb dX9_serves_122 rfl (lv_at hl 0 rfl) ?_
          refine r_get X hP 0 (wX9_g0_0 _ _ _ _) rfl inc_X9 20 (by decide) fl_X9_183 rfl dX9_serves_123 ?_
          refine lv_iload_n hx hb dX9_serves_126 rfl (lv_at hl 1 rfl) ?_
          obtain ⟨z9, hz9, hf⟩ := obd hf
          refine cS_roI X (As := [.int (g7 0 21), .int (g7 0 20), .int p2]) (rest := []) (c_X9_member l E (g7 0 21) (g7 0 20) p2 hz9) ps_X9_member ml_X9_177 ⟨rfl, rfl⟩ ⟨(Nat.le_of_ble_eq_true rfl), (Nat.le_of_ble_eq_true rfl)⟩ hP hD hS (is := []) (wc := []) rfl rfl rfl hl.1 rfl (Nat.le_of_ble_eq_true rfl) dX9_serves_127 ⟨Nat.le_refl _, Nat.le_refl _⟩ (fun H locs hP hS => ?_)
          have ho := Option.some.inj hf
          have hv : z9 = out.1 := by rw [← ho]
          have hw := congrArg (fun o : Int32 × Sg => (wX9 E a o.2 tr)) ho
          exact r_iret X hr hP hS hv hw dX9_serves_130
        · have hf := (if_pos c8).symm.trans hf
          refine lv_aload_n hx hb dX9_serves_111 rfl (lv_at hl 0 rfl) ?_
          refine r_get X hP 0 (wX9_g0_0 _ _ _ _) rfl inc_X9 19 (by decide) fl_X9_180 rfl dX9_serves_112 ?_
          refine lv_goto (tgt := 130) hx hb dX9_serves_115 (by decide) ?_
          have ho := Option.some.inj hf
          have hv : (g7 0 19) = out.1 := by rw [← ho]
          have hw := congrArg (fun o : Int32 × Sg => (wX9 E a o.2 tr)) ho
          exact r_iret X hr hP hS hv hw dX9_serves_130
      have L13 := lc2_ind (o := out) (step := (s_X9_serves_39 tr p1 (j_X9_serves_1 p2))) (fun x10 g11 => ∀ (H : Heap) (locs : List Loc) (ls : Array Slot), va_P E.1 vwCl (wX9 E a g11 tr) H → va_D A (wX9 E a g11 tr) → va_S A s.heap H locs → lv_has ls 5 [(0, .ref (a 0)), (1, .int p1), (2, .int p2), (3, .int x10)] → W p l e rm_X9_serves s m ([.ref (a 0), .int p1, .int p2] : List Value).toArray below meth c H locs 0 0 (MQ below (va_Qi (fun x (_ : Unit) => x = out.1) (fun _ t => QW E (wX9 E a out.2 tr) t) A) ([.ref (a 0), .int p1, .int p2] : List Value).toArray s 0 0 A) (F0 m 39 ls [])) (fun x10 g11 k12 ih13 hf H locs ls hP hD hS hl => by
        refine lv_iload_n hx hb dX9_serves_39 rfl (lv_at hl 3 rfl) ?_
        refine lv_bipush (v := 24) hx hb dX9_serves_40 (by decide) ?_
        refine lv_icmp_ge (tgt := 106) hx hb dX9_serves_42 (by decide) (fun c14 => ?_) (fun c14 => ?_)
        · have hf := (if_pos c14).symm.trans hf
          exact J1 g11 hf H locs ls hP hD hS (lv_sub hl [0, 2] rfl)
        · have hf := (if_neg c14).symm.trans hf
          refine lv_aload_n hx hb dX9_serves_45 rfl (lv_at hl 0 rfl) ?_
          refine lv_iconst (v := 0) hx hb dX9_serves_46 (by decide) ?_
          refine lv_iload_n hx hb dX9_serves_47 rfl (lv_at hl 3 rfl) ?_
          obtain ⟨z15, hz15, hf⟩ := obd hf
          refine cV_allI X (As := [.int 0, .int x10]) (rest := []) (c_X9_folds l E a g11 tr 0 x10 hz15) pv_X9_folds ml_X9_136 ⟨rfl, rfl⟩ ⟨(Nat.le_of_ble_eq_true rfl), (Nat.le_of_ble_eq_true rfl)⟩ hP hD hS (wX9_g0_0 _ _ _ _) rfl (wX9_adr _ _ _ _ _ _) rfl hl.1 rfl (Nat.le_of_ble_eq_true rfl) dX9_serves_48 ⟨Nat.le_refl _, Nat.le_refl _⟩ (fun H locs hP hD hS => ?_)
          refine lv_if_eq (tgt := 100) hx hb dX9_serves_51 (by decide) (fun c16 => ?_) (fun c16 => ?_)
          · have hf := (if_pos c16).symm.trans hf
            refine lv_iinc (v := (x10 + 1)) (lv' := [(3, .int (x10 + 1)), (0, .ref (a 0)), (1, .int p1), (2, .int p2)]) hx hb dX9_serves_100 hl (k := 3) rfl rfl (by decide) rfl (fun ls hl => ?_)
            refine lv_goto (tgt := 39) hx hb dX9_serves_103 (by decide) ?_
            exact ih13 (x10 + 1) z15.2 hf H locs ls hP hD hS (lv_sub hl [1, 2, 3, 0] rfl)
          · have hf := (if_neg c16).symm.trans hf
            refine lv_aload_n hx hb dX9_serves_54 rfl (lv_at hl 0 rfl) ?_
            refine lv_iconst (v := 1) hx hb dX9_serves_55 (by decide) ?_
            refine lv_iload_n hx hb dX9_serves_56 rfl (lv_at hl 1 rfl) ?_
            refine lv_iload_n hx hb dX9_serves_57 rfl (lv_at hl 3 rfl) ?_
            obtain ⟨z17, hz17, hf⟩ := obd hf
            refine cV_allV X (As := [.int 1, .int p1, .int x10]) (rest := []) (c_X9_tries l E a z15.2 tr 1 p1 x10 hz17) pv_X9_tries ml_X9_189 ⟨rfl, rfl⟩ ⟨(Nat.le_of_ble_eq_true rfl), (Nat.le_of_ble_eq_true rfl)⟩ hP hD hS (wX9_g0_0 _ _ _ _) rfl (wX9_adr _ _ _ _ _ _) rfl hl.1 rfl (Nat.le_of_ble_eq_true rfl) dX9_serves_58 ⟨Nat.le_refl _, Nat.le_refl _⟩ (fun H locs hP hD hS => ?_)
            refine lv_iconst (v := 0) hx hb dX9_serves_61 (by decide) ?_
            refine lv_istore (lv' := [(4, .int 0), (0, .ref (a 0)), (1, .int p1), (2, .int p2), (3, .int x10)]) hx hb dX9_serves_62 hl (by decide) rfl (fun ls hl => ?_)
            have L20 := lc2_ind (o := out) (step := (s_X9_serves_64 tr p1 x10 k12)) (fun x18 g19 => ∀ (H : Heap) (locs : List Loc) (ls : Array Slot), va_P E.1 vwCl (wX9 E a g19 tr) H → va_D A (wX9 E a g19 tr) → va_S A s.heap H locs → lv_has ls 5 [(0, .ref (a 0)), (1, .int p1), (2, .int p2), (3, .int x10), (4, .int x18)] → W p l e rm_X9_serves s m ([.ref (a 0), .int p1, .int p2] : List Value).toArray below meth c H locs 0 0 (MQ below (va_Qi (fun x (_ : Unit) => x = out.1) (fun _ t => QW E (wX9 E a out.2 tr) t) A) ([.ref (a 0), .int p1, .int p2] : List Value).toArray s 0 0 A) (F0 m 64 ls [])) (fun x18 g19 k20 ih20 hf H locs ls hP hD hS hl => by
              refine lv_iload hx hb dX9_serves_64 (lv_at hl 4 rfl) ?_
              refine lv_bipush (v := 24) hx hb dX9_serves_66 (by decide) ?_
              refine lv_icmp_ge (tgt := 100) hx hb dX9_serves_68 (by decide) (fun c21 => ?_) (fun c21 => ?_)
              · have hf := (if_pos c21).symm.trans hf
                refine lv_iinc (v := (x10 + 1)) (lv' := [(3, .int (x10 + 1)), (0, .ref (a 0)), (1, .int p1), (2, .int p2), (4, .int x18)]) hx hb dX9_serves_100 hl (k := 3) rfl rfl (by decide) rfl (fun ls hl => ?_)
                refine lv_goto (tgt := 39) hx hb dX9_serves_103 (by decide) ?_
                exact ih13 (x10 + 1) g19 hf H locs ls hP hD hS (lv_sub hl [1, 2, 3, 0] rfl)
              · have hf := (if_neg c21).symm.trans hf
                refine lv_aload_n hx hb dX9_serves_71 rfl (lv_at hl 0 rfl) ?_
                refine lv_iconst (v := 1) hx hb dX9_serves_72 (by decide) ?_
                refine lv_iload hx hb dX9_serves_73 (lv_at hl 4 rfl) ?_
                obtain ⟨z22, hz22, hf⟩ := obd hf
                refine cV_allI X (As := [.int 1, .int x18]) (rest := []) (c_X9_folds l E a g19 tr 1 x18 hz22) pv_X9_folds ml_X9_136 ⟨rfl, rfl⟩ ⟨(Nat.le_of_ble_eq_true rfl), (Nat.le_of_ble_eq_true rfl)⟩ hP hD hS (wX9_g0_0 _ _ _ _) rfl (wX9_adr _ _ _ _ _ _) rfl hl.1 rfl (Nat.le_of_ble_eq_true rfl) dX9_serves_75 ⟨Nat.le_refl _, Nat.le_refl _⟩ (fun H locs hP hD hS => ?_)
                refine lv_if_eq (tgt := 94) hx hb dX9_serves_78 (by decide) (fun c23 => ?_) (fun c23 => ?_)
                · have hf := (if_pos c23).symm.trans hf
                  refine lv_iinc (v := (x18 + 1)) (lv' := [(4, .int (x18 + 1)), (0, .ref (a 0)), (1, .int p1), (2, .int p2), (3, .int x10)]) hx hb dX9_serves_94 hl (k := 4) rfl rfl (by decide) rfl (fun ls hl => ?_)
                  refine lv_goto (tgt := 64) hx hb dX9_serves_97 (by decide) ?_
                  exact ih20 (x18 + 1) z22.2 hf H locs ls hP hD hS (lv_sub hl [1, 2, 3, 4, 0] rfl)
                · have hf := (if_neg c23).symm.trans hf
                  refine lv_aload_n hx hb dX9_serves_81 rfl (lv_at hl 0 rfl) ?_
                  refine lv_iconst (v := 2) hx hb dX9_serves_82 (by decide) ?_
                  refine lv_iload_n hx hb dX9_serves_83 rfl (lv_at hl 1 rfl) ?_
                  refine lv_bipush (v := 32) hx hb dX9_serves_84 (by decide) ?_
                  refine lv_iload_n hx hb dX9_serves_86 rfl (lv_at hl 3 rfl) ?_
                  refine lv_imul hx hb dX9_serves_87 ?_
                  refine lv_iload hx hb dX9_serves_88 (lv_at hl 4 rfl) ?_
                  refine lv_iadd hx hb dX9_serves_90 ?_
                  obtain ⟨z24, hz24, hf⟩ := obd hf
                  refine cV_allV X (As := [.int 2, .int p1, .int ((32 * x10) + x18)]) (rest := []) (c_X9_tries l E a z22.2 tr 2 p1 ((32 * x10) + x18) hz24) pv_X9_tries ml_X9_189 ⟨rfl, rfl⟩ ⟨(Nat.le_of_ble_eq_true rfl), (Nat.le_of_ble_eq_true rfl)⟩ hP hD hS (wX9_g0_0 _ _ _ _) rfl (wX9_adr _ _ _ _ _ _) rfl hl.1 rfl (Nat.le_of_ble_eq_true rfl) dX9_serves_91 ⟨Nat.le_refl _, Nat.le_refl _⟩ (fun H locs hP hD hS => ?_)
                  refine lv_iinc (v := (x18 + 1)) (lv' := [(4, .int (x18 + 1)), (0, .ref (a 0)), (1, .int p1), (2, .int p2), (3, .int x10)]) hx hb dX9_serves_94 hl (k := 4) rfl rfl (by decide) rfl (fun ls hl => ?_)
                  refine lv_goto (tgt := 64) hx hb dX9_serves_97 (by decide) ?_
                  exact ih20 (x18 + 1) z24 hf H locs ls hP hD hS (lv_sub hl [1, 2, 3, 4, 0] rfl))
            exact L20 1000 0 z17 hf H locs ls hP hD hS (lv_sub hl [1, 2, 3, 4, 0] rfl))
      exact L13 1000 0 z6 hf H locs ls hP hD hS (lv_sub hl [1, 2, 3, 0] rfl)
    · have hf := (if_neg c3).symm.trans hf
      refine lv_iconst (v := (-1)) hx hb dX9_serves_13 (by decide) ?_
      have ho := Option.some.inj hf
      have hv : (-1) = out.1 := by rw [← ho]
      have hw := congrArg (fun o : Int32 × Sg => (wX9 E a o.2 tr)) ho
      exact r_iret X hr hP hS hv hw dX9_serves_14
def rm_X9_touch : Room := { frames := 4, cells := 0, slots := 0, locals := 103 }
theorem pv_X9_touch : PkV RX9 yX9_touch cX9_touch 3 (some .int) 2 := ⟨im_X9_touch, se_X9_touch, ini_X9, cd_X9_touch, by decide +kernel⟩
set_option maxHeartbeats 4000000 in
set_option maxRecDepth 100000 in
theorem c_X9_touch (l : Launch) (E : Ev) (a : Nat → Nat) (σ : Sg) (tr : Int64) (p1 : Int32) (p2 : Int32) {out : Int32 × Sg} (hf : f_X9_touch σ tr p1 p2 = some out) : MtI l yX9_touch (wl yX9_touch cX9_touch 3 (some .int)) rm_X9_touch E [.ref (a 0), .int p1, .int p2] (wX9 E a σ tr) out.1 (wX9 E a out.2 tr) := by
  refine mt_of (QQ := (fun A => va_Qi (fun x (_ : Unit) => x = out.1) (fun _ t => QW E (wX9 E a out.2 tr) t) A)) (by decide) (Nat.le_of_ble_eq_true rfl) (fun p e s m below meth c A ls X hr hP hD hS hl => ?_)
  have hx := X.1.1
  have hb := X.1.2.1
  have hl : lv_has ls 3 [(0, .ref (a 0)), (1, .int p1), (2, .int p2)] := hl
  obtain ⟨H, hHe⟩ : ∃ H : Heap, H = s.heap := ⟨_, rfl⟩
  obtain ⟨locs, hLe⟩ : ∃ locs : List Loc, locs = [] := ⟨_, rfl⟩
  have hP : va_P E.1 vwCl (wX9 E a σ tr) H := by rw [hHe]; exact hP
  have hS : va_S A s.heap H locs := by rw [hHe, hLe]; exact hS
  rw [← hLe, show W p l e rm_X9_touch s m ([.ref (a 0), .int p1, .int p2] : List Value).toArray below meth c s.heap locs 0 0 = W p l e rm_X9_touch s m ([.ref (a 0), .int p1, .int p2] : List Value).toArray below meth c H locs 0 0 from by rw [hHe]]
  refine lv_aload_n hx hb dX9_touch_0 rfl (lv_at hl 0 rfl) ?_
  refine lv_iload_n hx hb dX9_touch_1 rfl (lv_at hl 1 rfl) ?_
  refine lv_iload_n hx hb dX9_touch_2 rfl (lv_at hl 2 rfl) ?_
  obtain ⟨z1, hz1, hf⟩ := obd hf
  refine cV_allI X (As := [.int p1, .int p2]) (rest := []) (c_X9_areTwo l E a σ tr p1 p2 hz1) pv_X9_areTwo ml_X9_167 ⟨rfl, rfl⟩ ⟨(Nat.le_of_ble_eq_true rfl), (Nat.le_of_ble_eq_true rfl)⟩ hP hD hS (wX9_g0_0 _ _ _ _) rfl (wX9_adr _ _ _ _ _ _) rfl hl.1 rfl (Nat.le_of_ble_eq_true rfl) dX9_touch_3 ⟨Nat.le_refl _, Nat.le_refl _⟩ (fun H locs hP hD hS => ?_)
  refine lv_if_ne (tgt := 11) hx hb dX9_touch_6 (by decide) (fun c2 => ?_) (fun c2 => ?_)
  · have hf := (if_neg c2).symm.trans hf
    refine lv_aload_n hx hb dX9_touch_11 rfl (lv_at hl 0 rfl) ?_
    refine lv_aload_n hx hb dX9_touch_12 rfl (lv_at hl 0 rfl) ?_
    refine r_get X hP 0 (wX9_g0_0 _ _ _ _) rfl inc_X9 5 (by decide) fl_X9_19 rfl dX9_touch_13 ?_
    refine lv_iconst (v := 1) hx hb dX9_touch_16 (by decide) ?_
    obtain ⟨h3, hf⟩ := chk_in hf
    refine r_iald X hP 4 (wX9_g0_4 _ _ _ _) h3 dX9_touch_17 ?_
    obtain ⟨z4, hz4, hf⟩ := obd hf
    refine cV_allV X (As := [.int (σ 4 (1 : Int32).toNatClampNeg)]) (rest := []) (c_X9_now l E a σ tr (σ 4 (1 : Int32).toNatClampNeg) hz4) pv_X9_now ml_X9_148 ⟨rfl, rfl⟩ ⟨(Nat.le_of_ble_eq_true rfl), (Nat.le_of_ble_eq_true rfl)⟩ hP hD hS (wX9_g0_0 _ _ _ _) rfl (wX9_adr _ _ _ _ _ _) rfl hl.1 rfl (Nat.le_of_ble_eq_true rfl) dX9_touch_18 ⟨Nat.le_refl _, Nat.le_refl _⟩ (fun H locs hP hD hS => ?_)
    refine lv_aload_n hx hb dX9_touch_21 rfl (lv_at hl 0 rfl) ?_
    refine lv_iconst (v := 0) hx hb dX9_touch_22 (by decide) ?_
    refine lv_iload_n hx hb dX9_touch_23 rfl (lv_at hl 1 rfl) ?_
    refine lv_iload_n hx hb dX9_touch_24 rfl (lv_at hl 2 rfl) ?_
    obtain ⟨z5, hz5, hf⟩ := obd hf
    refine cV_allI X (As := [.int 0, .int p1, .int p2]) (rest := []) (c_X9_touches l E a z4 tr 0 p1 p2 hz5) pv_X9_touches ml_X9_144 ⟨rfl, rfl⟩ ⟨(Nat.le_of_ble_eq_true rfl), (Nat.le_of_ble_eq_true rfl)⟩ hP hD hS (wX9_g0_0 _ _ _ _) rfl (wX9_adr _ _ _ _ _ _) rfl hl.1 rfl (Nat.le_of_ble_eq_true rfl) dX9_touch_25 ⟨Nat.le_refl _, Nat.le_refl _⟩ (fun H locs hP hD hS => ?_)
    have ho := Option.some.inj hf
    have hv : z5 = out.1 := by rw [← ho]
    have hw := congrArg (fun o : Int32 × Sg => (wX9 E a o.2 tr)) ho
    exact r_iret X hr hP hS hv hw dX9_touch_28
  · have hf := (if_pos c2).symm.trans hf
    refine lv_iconst (v := (-1)) hx hb dX9_touch_9 (by decide) ?_
    have ho := Option.some.inj hf
    have hv : (-1) = out.1 := by rw [← ho]
    have hw := congrArg (fun o : Int32 × Sg => (wX9 E a o.2 tr)) ho
    exact r_iret X hr hP hS hv hw dX9_touch_10
def rm_X9_trace : Room := { frames := 0, cells := 0, slots := 0, locals := 0 }
theorem pv_X9_trace : PkV RX9 yX9_trace cX9_trace 1 (some .long) 0 := ⟨im_X9_trace, se_X9_trace, ini_X9, cd_X9_trace, by decide +kernel⟩
set_option maxHeartbeats 4000000 in
set_option maxRecDepth 100000 in
theorem c_X9_trace (l : Launch) (E : Ev) (a : Nat → Nat) (σ : Sg) (tr : Int64) {out : Int64} (hf : f_X9_trace σ tr = some out) : MtL l yX9_trace (wl yX9_trace cX9_trace 1 (some .long)) rm_X9_trace E [.ref (a 0)] (wX9 E a σ tr) out (wX9 E a σ tr) := by
  refine mt_of (QQ := (fun A => va_Ql (fun x (_ : Unit) => x = out) (fun _ t => QW E (wX9 E a σ tr) t) A)) (by decide) (Nat.le_of_ble_eq_true rfl) (fun p e s m below meth c A ls X hr hP hD hS hl => ?_)
  have hx := X.1.1
  have hb := X.1.2.1
  have hl : lv_has ls 1 [(0, .ref (a 0))] := hl
  obtain ⟨H, hHe⟩ : ∃ H : Heap, H = s.heap := ⟨_, rfl⟩
  obtain ⟨locs, hLe⟩ : ∃ locs : List Loc, locs = [] := ⟨_, rfl⟩
  have hP : va_P E.1 vwCl (wX9 E a σ tr) H := by rw [hHe]; exact hP
  have hS : va_S A s.heap H locs := by rw [hHe, hLe]; exact hS
  rw [← hLe, show W p l e rm_X9_trace s m ([.ref (a 0)] : List Value).toArray below meth c s.heap locs 0 0 = W p l e rm_X9_trace s m ([.ref (a 0)] : List Value).toArray below meth c H locs 0 0 from by rw [hHe]]
  refine lv_aload_n hx hb dX9_trace_0 rfl (lv_at hl 0 rfl) ?_
  refine r_get X hP 0 (wX9_g0_0 _ _ _ _) rfl inc_X9 0 (by decide) fl_X9_197 rfl dX9_trace_1 ?_
  have ho := Option.some.inj hf
  exact r_lret X hr hP hS ho rfl dX9_trace_4
def rm_X9_type : Room := { frames := 1, cells := 0, slots := 0, locals := 22 }
theorem pv_X9_type : PkV RX9 yX9_type cX9_type 5 (some .int) 2 := ⟨im_X9_type, se_X9_type, ini_X9, cd_X9_type, by decide +kernel⟩
set_option maxHeartbeats 4000000 in
set_option maxRecDepth 100000 in
theorem c_X9_type (l : Launch) (E : Ev) (a : Nat → Nat) (σ : Sg) (tr : Int64) (p1 : Int64) (p2 : Int32) {out : Int32 × Sg} (hf : f_X9_type σ tr p1 p2 = some out) : MtI l yX9_type (wl yX9_type cX9_type 5 (some .int)) rm_X9_type E [.ref (a 0), .long p1, .int p2] (wX9 E a σ tr) out.1 (wX9 E a out.2 tr) := by
  refine mt_of (QQ := (fun A => va_Qi (fun x (_ : Unit) => x = out.1) (fun _ t => QW E (wX9 E a out.2 tr) t) A)) (by decide) (Nat.le_of_ble_eq_true rfl) (fun p e s m below meth c A ls X hr hP hD hS hl => ?_)
  have hx := X.1.1
  have hb := X.1.2.1
  have hl : lv_has ls 5 [(0, .ref (a 0)), (1, .long p1), (3, .int p2)] := hl
  obtain ⟨H, hHe⟩ : ∃ H : Heap, H = s.heap := ⟨_, rfl⟩
  obtain ⟨locs, hLe⟩ : ∃ locs : List Loc, locs = [] := ⟨_, rfl⟩
  have hP : va_P E.1 vwCl (wX9 E a σ tr) H := by rw [hHe]; exact hP
  have hS : va_S A s.heap H locs := by rw [hHe, hLe]; exact hS
  rw [← hLe, show W p l e rm_X9_type s m ([.ref (a 0), .long p1, .int p2] : List Value).toArray below meth c s.heap locs 0 0 = W p l e rm_X9_type s m ([.ref (a 0), .long p1, .int p2] : List Value).toArray below meth c H locs 0 0 from by rw [hHe]]
  refine lv_iload_n hx hb dX9_type_0 rfl (lv_at hl 2 rfl) ?_
  refine lv_iconst (v := 1) hx hb dX9_type_1 (by decide) ?_
  refine lv_bipush (v := 8) hx hb dX9_type_2 (by decide) ?_
  obtain ⟨z1, hz1, hf⟩ := obd hf
  refine cS_roI X (As := [.int p2, .int 1, .int 8]) (rest := []) (c_X9_in l E p2 1 8 hz1) ps_X9_in ml_X9_55 ⟨rfl, rfl⟩ ⟨(Nat.le_of_ble_eq_true rfl), (Nat.le_of_ble_eq_true rfl)⟩ hP hD hS (is := []) (wc := []) rfl rfl rfl hl.1 rfl (Nat.le_of_ble_eq_true rfl) dX9_type_4 ⟨Nat.le_refl _, Nat.le_refl _⟩ (fun H locs hP hS => ?_)
  refine lv_if_ne (tgt := 12) hx hb dX9_type_7 (by decide) (fun c2 => ?_) (fun c2 => ?_)
  · have hf := (if_neg c2).symm.trans hf
    refine lv_aload_n hx hb dX9_type_12 rfl (lv_at hl 0 rfl) ?_
    refine r_get X hP 0 (wX9_g0_0 _ _ _ _) rfl inc_X9 2 (by decide) fl_X9_63 rfl dX9_type_13 ?_
    refine lv_iload_n hx hb dX9_type_16 rfl (lv_at hl 2 rfl) ?_
    refine lv_iadd hx hb dX9_type_17 ?_
    refine lv_sipush (v := 200) hx hb dX9_type_18 (by decide) ?_
    refine lv_icmp_le (tgt := 27) hx hb dX9_type_21 (by decide) (fun c3 => ?_) (fun c3 => ?_)
    · have hf := (if_pos c3).symm.trans hf
      refine lv_iload_n hx hb dX9_type_27 rfl (lv_at hl 2 rfl) ?_
      refine lv_iconst (v := 1) hx hb dX9_type_28 (by decide) ?_
      refine lv_isub hx hb dX9_type_29 ?_
      refine lv_istore (lv' := [(4, .int (p2 - 1)), (0, .ref (a 0)), (1, .long p1), (3, .int p2)]) hx hb dX9_type_30 hl (by decide) rfl (fun ls hl => ?_)
      have J1 : ∀ (g4 : Sg), j_X9_type_1 g4 = some out → ∀ (H : Heap) (locs : List Loc) (ls : Array Slot), va_P E.1 vwCl (wX9 E a g4 tr) H → va_D A (wX9 E a g4 tr) → va_S A s.heap H locs → lv_has ls 5 [(0, .ref (a 0))] → W p l e rm_X9_type s m ([.ref (a 0), .long p1, .int p2] : List Value).toArray below meth c H locs 0 0 (MQ below (va_Qi (fun x (_ : Unit) => x = out.1) (fun _ t => QW E (wX9 E a out.2 tr) t) A) ([.ref (a 0), .long p1, .int p2] : List Value).toArray s 0 0 A) (F0 m 74 ls []) := by
        intro g4 hf H locs ls hP hD hS hl
        refine lv_aload_n hx hb dX9_type_74 rfl (lv_at hl 0 rfl) ?_
        refine r_get X hP 0 (wX9_g0_0 _ _ _ _) rfl inc_X9 2 (by decide) fl_X9_63 rfl dX9_type_75 ?_
        have ho := Option.some.inj hf
        have hv : (g4 0 2) = out.1 := by rw [← ho]
        have hw := congrArg (fun o : Int32 × Sg => (wX9 E a o.2 tr)) ho
        exact r_iret X hr hP hS hv hw dX9_type_78
      have L8 := lc2_ind (o := out) (step := (s_X9_type_32 p1 j_X9_type_1)) (fun x5 g6 => ∀ (H : Heap) (locs : List Loc) (ls : Array Slot), va_P E.1 vwCl (wX9 E a g6 tr) H → va_D A (wX9 E a g6 tr) → va_S A s.heap H locs → lv_has ls 5 [(0, .ref (a 0)), (1, .long p1), (4, .int x5)] → W p l e rm_X9_type s m ([.ref (a 0), .long p1, .int p2] : List Value).toArray below meth c H locs 0 0 (MQ below (va_Qi (fun x (_ : Unit) => x = out.1) (fun _ t => QW E (wX9 E a out.2 tr) t) A) ([.ref (a 0), .long p1, .int p2] : List Value).toArray s 0 0 A) (F0 m 32 ls [])) (fun x5 g6 k7 ih8 hf H locs ls hP hD hS hl => by
        refine lv_iload hx hb dX9_type_32 (lv_at hl 2 rfl) ?_
        refine lv_if_lt (tgt := 74) hx hb dX9_type_34 (by decide) (fun c9 => ?_) (fun c9 => ?_)
        · have hf := (if_pos c9).symm.trans hf
          exact J1 g6 hf H locs ls hP hD hS (lv_sub hl [0] rfl)
        · have hf := (if_neg c9).symm.trans hf
          refine lv_aload_n hx hb dX9_type_37 rfl (lv_at hl 0 rfl) ?_
          refine r_get X hP 0 (wX9_g0_0 _ _ _ _) rfl inc_X9 1 (by decide) fl_X9_7 rfl dX9_type_38 ?_
          refine lv_aload_n hx hb dX9_type_41 rfl (lv_at hl 0 rfl) ?_
          refine r_get X hP 0 (wX9_g0_0 _ _ _ _) rfl inc_X9 2 (by decide) fl_X9_63 rfl dX9_type_42 ?_
          refine lv_lload_n hx hb dX9_type_45 rfl (lv_at hl 1 rfl) ?_
          refine lv_bipush (v := 8) hx hb dX9_type_46 (by decide) ?_
          refine lv_iload hx hb dX9_type_48 (lv_at hl 2 rfl) ?_
          refine lv_imul hx hb dX9_type_50 ?_
          refine lv_lshr hx hb dX9_type_51 rfl ?_
          refine lv_ldc2 hx hb X.1.2.2.2.1 (X.1.2.2.2.2 _ kl_X9_67) dX9_type_52 ?_
          refine lv_land hx hb dX9_type_55 ?_
          refine lv_l2i hx hb dX9_type_56 rfl ?_
          obtain ⟨h10, hf⟩ := chk_in hf
          refine r_iast X hP hD hS 1 (wX9_g0_1 _ _ _ _) h10 (wX9_t0_1 _ _ _ _ _ _) dX9_type_57 (fun H locs hP hD hS => ?_)
          refine lv_aload_n hx hb dX9_type_58 rfl (lv_at hl 0 rfl) ?_
          refine lv_dup hx hb dX9_type_59 rfl ?_
          refine r_get X hP 0 (wX9_g0_0 _ _ _ _) rfl inc_X9 2 (by decide) fl_X9_63 rfl dX9_type_60 ?_
          refine lv_iconst (v := 1) hx hb dX9_type_63 (by decide) ?_
          refine lv_iadd hx hb dX9_type_64 ?_
          refine r_put X hP hD hS 0 (wX9_g0_0 _ _ _ _) rfl inc_X9 tyX9 tyX9_ok nmX9 2 (by decide) fl_X9_63 rfl (ty := .int) rfl rfl rfl (Nat.le_of_ble_eq_true rfl) (wX9_s0_0_2 _ _ _ _ _) dX9_type_65 (fun H locs hP hD hS => ?_)
          refine lv_iinc (v := (x5 + (-1))) (lv' := [(4, .int (x5 + (-1))), (0, .ref (a 0)), (1, .long p1)]) hx hb dX9_type_68 hl (k := 2) rfl rfl (by decide) rfl (fun ls hl => ?_)
          refine lv_goto (tgt := 32) hx hb dX9_type_71 (by decide) ?_
          exact ih8 (x5 + (-1)) (sg_st (sg_st g6 1 ((g6 0 2) : Int32).toNatClampNeg (((((p1 : Int64) >>> (((8 * x5) : Int32).toInt64 &&& 63)) &&& 255) : Int64).toInt32)) 0 2 (((sg_st g6 1 ((g6 0 2) : Int32).toNatClampNeg (((((p1 : Int64) >>> (((8 * x5) : Int32).toInt64 &&& 63)) &&& 255) : Int64).toInt32)) 0 2) + 1)) hf H locs ls hP hD hS (lv_sub hl [1, 2, 0] rfl))
      exact L8 1000 (p2 - 1) σ hf H locs ls hP hD hS (lv_sub hl [1, 2, 0] rfl)
    · have hf := (if_neg c3).symm.trans hf
      refine lv_bipush (v := (-3)) hx hb dX9_type_24 (by decide) ?_
      have ho := Option.some.inj hf
      have hv : (-3) = out.1 := by rw [← ho]
      have hw := congrArg (fun o : Int32 × Sg => (wX9 E a o.2 tr)) ho
      exact r_iret X hr hP hS hv hw dX9_type_26
  · have hf := (if_pos c2).symm.trans hf
    refine lv_iconst (v := (-1)) hx hb dX9_type_10 (by decide) ?_
    have ho := Option.some.inj hf
    have hv : (-1) = out.1 := by rw [← ho]
    have hw := congrArg (fun o : Int32 × Sg => (wX9 E a o.2 tr)) ho
    exact r_iret X hr hP hS hv hw dX9_type_11
def rm_X9_undo : Room := { frames := 4, cells := 0, slots := 0, locals := 103 }
theorem pv_X9_undo : PkV RX9 yX9_undo cX9_undo 1 (some .int) 0 := ⟨im_X9_undo, se_X9_undo, ini_X9, cd_X9_undo, by decide +kernel⟩
set_option maxHeartbeats 4000000 in
set_option maxRecDepth 100000 in
theorem c_X9_undo (l : Launch) (E : Ev) (a : Nat → Nat) (σ : Sg) (tr : Int64) {out : Int32 × Sg} (hf : f_X9_undo σ tr = some out) : MtI l yX9_undo (wl yX9_undo cX9_undo 1 (some .int)) rm_X9_undo E [.ref (a 0)] (wX9 E a σ tr) out.1 (wX9 E a out.2 tr) := by
  refine mt_of (QQ := (fun A => va_Qi (fun x (_ : Unit) => x = out.1) (fun _ t => QW E (wX9 E a out.2 tr) t) A)) (by decide) (Nat.le_of_ble_eq_true rfl) (fun p e s m below meth c A ls X hr hP hD hS hl => ?_)
  have hx := X.1.1
  have hb := X.1.2.1
  have hl : lv_has ls 1 [(0, .ref (a 0))] := hl
  obtain ⟨H, hHe⟩ : ∃ H : Heap, H = s.heap := ⟨_, rfl⟩
  obtain ⟨locs, hLe⟩ : ∃ locs : List Loc, locs = [] := ⟨_, rfl⟩
  have hP : va_P E.1 vwCl (wX9 E a σ tr) H := by rw [hHe]; exact hP
  have hS : va_S A s.heap H locs := by rw [hHe, hLe]; exact hS
  rw [← hLe, show W p l e rm_X9_undo s m ([.ref (a 0)] : List Value).toArray below meth c s.heap locs 0 0 = W p l e rm_X9_undo s m ([.ref (a 0)] : List Value).toArray below meth c H locs 0 0 from by rw [hHe]]
  refine lv_aload_n hx hb dX9_undo_0 rfl (lv_at hl 0 rfl) ?_
  refine r_get X hP 0 (wX9_g0_0 _ _ _ _) rfl inc_X9 5 (by decide) fl_X9_19 rfl dX9_undo_1 ?_
  refine lv_iconst (v := 1) hx hb dX9_undo_4 (by decide) ?_
  obtain ⟨h1, hf⟩ := chk_in hf
  refine r_iald X hP 4 (wX9_g0_4 _ _ _ _) h1 dX9_undo_5 ?_
  refine lv_if_ne (tgt := 12) hx hb dX9_undo_6 (by decide) (fun c2 => ?_) (fun c2 => ?_)
  · have hf := (if_neg c2).symm.trans hf
    refine lv_aload_n hx hb dX9_undo_12 rfl (lv_at hl 0 rfl) ?_
    refine r_get X hP 0 (wX9_g0_0 _ _ _ _) rfl inc_X9 5 (by decide) fl_X9_19 rfl dX9_undo_13 ?_
    refine lv_iconst (v := 1) hx hb dX9_undo_16 (by decide) ?_
    refine lv_dup2_11 hx hb dX9_undo_17 rfl rfl ?_
    obtain ⟨h3, hf⟩ := chk_in hf
    refine r_iald X hP 4 (wX9_g0_4 _ _ _ _) h3 dX9_undo_18 ?_
    refine lv_iconst (v := 1) hx hb dX9_undo_19 (by decide) ?_
    refine lv_isub hx hb dX9_undo_20 ?_
    obtain ⟨h4, hf⟩ := chk_in hf
    refine r_iast X hP hD hS 4 (wX9_g0_4 _ _ _ _) h4 (wX9_t0_4 _ _ _ _ _ _) dX9_undo_21 (fun H locs hP hD hS => ?_)
    refine lv_aload_n hx hb dX9_undo_22 rfl (lv_at hl 0 rfl) ?_
    refine lv_aload_n hx hb dX9_undo_23 rfl (lv_at hl 0 rfl) ?_
    refine r_get X hP 0 (wX9_g0_0 _ _ _ _) rfl inc_X9 5 (by decide) fl_X9_19 rfl dX9_undo_24 ?_
    refine lv_iconst (v := 1) hx hb dX9_undo_27 (by decide) ?_
    obtain ⟨h5, hf⟩ := chk_in hf
    refine r_iald X hP 4 (wX9_g0_4 _ _ _ _) h5 dX9_undo_28 ?_
    obtain ⟨z6, hz6, hf⟩ := obd hf
    refine cV_allV X (As := [.int ((sg_st σ 4 (1 : Int32).toNatClampNeg ((σ 4 (1 : Int32).toNatClampNeg) - 1)) 4 (1 : Int32).toNatClampNeg)]) (rest := []) (c_X9_now l E a (sg_st σ 4 (1 : Int32).toNatClampNeg ((σ 4 (1 : Int32).toNatClampNeg) - 1)) tr ((sg_st σ 4 (1 : Int32).toNatClampNeg ((σ 4 (1 : Int32).toNatClampNeg) - 1)) 4 (1 : Int32).toNatClampNeg) hz6) pv_X9_now ml_X9_148 ⟨rfl, rfl⟩ ⟨(Nat.le_of_ble_eq_true rfl), (Nat.le_of_ble_eq_true rfl)⟩ hP hD hS (wX9_g0_0 _ _ _ _) rfl (wX9_adr _ _ _ _ _ _) rfl hl.1 rfl (Nat.le_of_ble_eq_true rfl) dX9_undo_29 ⟨Nat.le_refl _, Nat.le_refl _⟩ (fun H locs hP hD hS => ?_)
    refine lv_aload_n hx hb dX9_undo_32 rfl (lv_at hl 0 rfl) ?_
    refine lv_aload_n hx hb dX9_undo_33 rfl (lv_at hl 0 rfl) ?_
    refine r_get X hP 0 (wX9_g0_0 _ _ _ _) rfl inc_X9 5 (by decide) fl_X9_19 rfl dX9_undo_34 ?_
    refine lv_iconst (v := 2) hx hb dX9_undo_37 (by decide) ?_
    refine lv_aload_n hx hb dX9_undo_38 rfl (lv_at hl 0 rfl) ?_
    refine r_get X hP 0 (wX9_g0_0 _ _ _ _) rfl inc_X9 5 (by decide) fl_X9_19 rfl dX9_undo_39 ?_
    refine lv_iconst (v := 1) hx hb dX9_undo_42 (by decide) ?_
    obtain ⟨h7, hf⟩ := chk_in hf
    refine r_iald X hP 4 (wX9_g0_4 _ _ _ _) h7 dX9_undo_43 ?_
    refine lv_iadd hx hb dX9_undo_44 ?_
    obtain ⟨h8, hf⟩ := chk_in hf
    refine r_iald X hP 4 (wX9_g0_4 _ _ _ _) h8 dX9_undo_45 ?_
    refine lv_iconst (v := (-1)) hx hb dX9_undo_46 (by decide) ?_
    obtain ⟨z9, hz9, hf⟩ := obd hf
    refine cV_allI X (As := [.int (z6 4 ((2 + (z6 4 (1 : Int32).toNatClampNeg)) : Int32).toNatClampNeg), .int (-1)]) (rest := []) (c_X9_bendsAll l E a z6 tr (z6 4 ((2 + (z6 4 (1 : Int32).toNatClampNeg)) : Int32).toNatClampNeg) (-1) hz9) pv_X9_bendsAll ml_X9_161 ⟨rfl, rfl⟩ ⟨(Nat.le_of_ble_eq_true rfl), (Nat.le_of_ble_eq_true rfl)⟩ hP hD hS (wX9_g0_0 _ _ _ _) rfl (wX9_adr _ _ _ _ _ _) rfl hl.1 rfl (Nat.le_of_ble_eq_true rfl) dX9_undo_47 ⟨Nat.le_refl _, Nat.le_refl _⟩ (fun H locs hP hD hS => ?_)
    refine lv_pop hx hb dX9_undo_50 rfl ?_
    refine lv_aload_n hx hb dX9_undo_51 rfl (lv_at hl 0 rfl) ?_
    refine r_get X hP 0 (wX9_g0_0 _ _ _ _) rfl inc_X9 5 (by decide) fl_X9_19 rfl dX9_undo_52 ?_
    refine lv_iconst (v := 1) hx hb dX9_undo_55 (by decide) ?_
    obtain ⟨h10, hf⟩ := chk_in hf
    refine r_iald X hP 4 (wX9_g0_4 _ _ _ _) h10 dX9_undo_56 ?_
    have ho := Option.some.inj hf
    have hv : (z9.2 4 (1 : Int32).toNatClampNeg) = out.1 := by rw [← ho]
    have hw := congrArg (fun o : Int32 × Sg => (wX9 E a o.2 tr)) ho
    exact r_iret X hr hP hS hv hw dX9_undo_57
  · have hf := (if_pos c2).symm.trans hf
    refine lv_bipush (v := (-2)) hx hb dX9_undo_9 (by decide) ?_
    have ho := Option.some.inj hf
    have hv : (-2) = out.1 := by rw [← ho]
    have hw := congrArg (fun o : Int32 × Sg => (wX9 E a o.2 tr)) ho
    exact r_iret X hr hP hS hv hw dX9_undo_11
