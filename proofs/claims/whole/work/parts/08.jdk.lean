/-! ===== the JDK's own methods of a text constant: length(), charAt(k) ===== -/
section JDKC
variable {p : Program} {l : Launch} {e : Env} {R : Room} {s : State} {m : MethodId} {args : Array Value} {below : List Frame} {meth : Method} {c : Code} {H : Heap} {locs : List Loc} {cells slots : Nat} {Q : State → Prop}
variable {cc : ByteArray} {pc nL : Nat} {ls : Array Slot} {rest st As : List Value} {A : Nat → Prop} {E : Ev} {wb wc : va_W} {own : String}
variable {y : MethodName} {bytes : ByteArray} {maxL n index : Nat} {ret : Option FieldType} {rm : Room}
theorem cS_roV {is : List Nat} (X : Cx p s m args meth c cc nL own E A) (hM : MtV l y (wl y bytes maxL ret) rm E As wc wc) (pk : PkS y bytes maxL ret n) (hl : Cond.methodLink own index y ∈ lw_g) (hrm : rm.cells = 0 ∧ rm.slots = 0) (hR : rm.frames + 1 ≤ R.frames ∧ 8 + (maxL + 11) + rm.locals ≤ R.locals) (hP : va_P E.1 vwCl wb H) (hD : va_D A wb) (hS : va_S A s.heap H locs)
    (hC : is.map (fun i => wb[i]?) = wc.map some) (hnd : va_nd is = true)
    (hn : As.length = n) (hsize : ls.size = nL) (hstack : st = As.reverse ++ rest) (hW : (rest.map fun v => v.category).sum ≤ 8) (hdg : decode cc pc = .ok (.invokestatic index, 3)) (hf : cells ≤ R.cells ∧ slots ≤ R.slots)
    (kk : ∀ (H1 : Heap) (locs1 : List Loc), va_P E.1 vwCl wb H1 → va_S A s.heap H1 locs1 → W p l e R s m args below meth c H1 locs1 cells slots Q (F0 m (pc + 3) ls rest)) : W p l e R s m args below meth c H locs cells slots Q (F0 m pc ls st) := by
  have hF := va_free (wc := wc) hD hS X.2.2.2.1 is hC
  refine va_callv (va_runS (As := As) (rest := rest) X.1 (hM H.size) (pk.cw X.1.2.2.2.2 hl hrm hR) ⟨preW_blind _ _ _ _, fun U hU hW => ⟨rfl, preW_of hP hD hS X.2.1 X.2.2.1 X.2.2.2.1 hC hnd U hU hW⟩⟩ rfl hn hsize hstack (lv_room hW) hdg hf) hS (fun q _ h => hF q h) hF (fun u t H1 locs1 ht hvm hw1 hB hz1 hk1 hS1 => ?_)
  exact kk H1 locs1 (wro_P hP hD hC hk1 (by rw [← ht]; exact hB)) hS1
end JDKC
theorem ps_J3_checkIndex : PkS yJ3_checkIndex_8e157 cJ3_checkIndex_8e157 3 (some .int) 3 := ⟨sm_J3_checkIndex_8e157, ini_J3, cd_J3_checkIndex_8e157, by decide +kernel⟩
theorem ps_J0_checkIndex : PkS yJ0_checkIndex_df160 cJ0_checkIndex_df160 2 none 2 := ⟨sm_J0_checkIndex_df160, ini_J0, cd_J0_checkIndex_df160, by decide +kernel⟩
theorem ps_J1_charAt : PkS yJ1_charAt_3b067 cJ1_charAt_3b067 2 (some .char) 2 := ⟨sm_J1_charAt_3b067, ini_J1, cd_J1_charAt_3b067, by decide +kernel⟩
theorem pv_J0_length_8abf5 : PkV "java/lang/String" yJ0_length_8abf5 cJ0_length_8abf5 1 (some .int) 0 := ⟨im_J0_length_8abf5, se_J0_length_8abf5, ini_J0, cd_J0_length_8abf5, by decide +kernel⟩
theorem pv_J0_charAt_5068e : PkV "java/lang/String" yJ0_charAt_5068e cJ0_charAt_5068e 2 (some .char) 1 := ⟨im_J0_charAt_5068e, se_J0_charAt_5068e, ini_J0, cd_J0_charAt_5068e, by decide +kernel⟩
theorem pv_J0_isLatin1 : PkV "java/lang/String" yJ0_isLatin1_aae02 cJ0_isLatin1_aae02 1 (some .boolean) 0 := ⟨im_J0_isLatin1_aae02, se_J0_isLatin1_aae02, ini_J0, cd_J0_isLatin1_aae02, by decide +kernel⟩
theorem pv_J0_coder : PkV "java/lang/String" yJ0_coder_7d493 cJ0_coder_7d493 1 (some .byte) 0 := ⟨im_J0_coder_7d493, se_J0_coder_7d493, ini_J0, cd_J0_coder_7d493, by decide +kernel⟩
def rm_00 : Room := { frames := 0, cells := 0, slots := 0, locals := 0 }
def rm_J0_checkIndex : Room := { frames := 1, cells := 0, slots := 0, locals := 22 }
def rm_J1_charAt : Room := { frames := 2, cells := 0, slots := 0, locals := 43 }
def rm_J0_charAt_5068e : Room := { frames := 3, cells := 0, slots := 0, locals := 64 }
def rm_J0_length_8abf5 : Room := { frames := 1, cells := 0, slots := 0, locals := 20 }
set_option maxHeartbeats 4000000 in
set_option maxRecDepth 100000 in
theorem c_J3_checkIndex (l : Launch) (E : Ev) (i n : Int32) (v : Value) (hv : v = .null ∨ ∃ t : Nat, v = .ref t) (h1 : ¬ i < 0) (h2 : i < n) : MtI l yJ3_checkIndex_8e157 (wl yJ3_checkIndex_8e157 cJ3_checkIndex_8e157 3 (some .int)) rm_00 E [.int i, .int n, v] [] i [] := by
  rcases hv with rfl | ⟨t, rfl⟩
  · refine mt_of (QQ := (fun A => va_Qi (fun x (_ : Unit) => x = i) (fun _ t => QW E [] t) A)) (by decide) (Nat.le_of_ble_eq_true rfl) (fun p e s m below meth c A ls X hr hP hD hS hl => ?_)
    have hx := X.1.1
    have hb := X.1.2.1
    have hl : lv_has ls 3 [(0, .int i), (1, .int n), (2, .null)] := hl
    refine lv_iload_n hx hb dJ3_checkIndex_8e157_0 rfl (lv_at hl 0 rfl) ?_
    refine lv_if_lt (tgt := 9) hx hb dJ3_checkIndex_8e157_1 (by decide) (fun c => absurd c h1) (fun _ => ?_)
    refine lv_iload_n hx hb dJ3_checkIndex_8e157_4 rfl (lv_at hl 0 rfl) ?_
    refine lv_iload_n hx hb dJ3_checkIndex_8e157_5 rfl (lv_at hl 1 rfl) ?_
    refine lv_icmp_lt (tgt := 16) hx hb dJ3_checkIndex_8e157_6 (by decide) (fun _ => ?_) (fun c => absurd h2 c)
    refine lv_iload_n hx hb dJ3_checkIndex_8e157_16 rfl (lv_at hl 0 rfl) ?_
    exact r_iret X hr hP hS rfl rfl dJ3_checkIndex_8e157_17
  · refine mt_of (QQ := (fun A => va_Qi (fun x (_ : Unit) => x = i) (fun _ t => QW E [] t) A)) (by decide) (Nat.le_of_ble_eq_true rfl) (fun p e s m below meth c A ls X hr hP hD hS hl => ?_)
    have hx := X.1.1
    have hb := X.1.2.1
    have hl : lv_has ls 3 [(0, .int i), (1, .int n), (2, .ref t)] := hl
    refine lv_iload_n hx hb dJ3_checkIndex_8e157_0 rfl (lv_at hl 0 rfl) ?_
    refine lv_if_lt (tgt := 9) hx hb dJ3_checkIndex_8e157_1 (by decide) (fun c => absurd c h1) (fun _ => ?_)
    refine lv_iload_n hx hb dJ3_checkIndex_8e157_4 rfl (lv_at hl 0 rfl) ?_
    refine lv_iload_n hx hb dJ3_checkIndex_8e157_5 rfl (lv_at hl 1 rfl) ?_
    refine lv_icmp_lt (tgt := 16) hx hb dJ3_checkIndex_8e157_6 (by decide) (fun _ => ?_) (fun c => absurd h2 c)
    refine lv_iload_n hx hb dJ3_checkIndex_8e157_16 rfl (lv_at hl 0 rfl) ?_
    exact r_iret X hr hP hS rfl rfl dJ3_checkIndex_8e157_17
set_option maxHeartbeats 4000000 in
set_option maxRecDepth 100000 in
theorem c_J0_checkIndex (l : Launch) (E : Ev) (i n : Int32) (h1 : ¬ i < 0) (h2 : i < n) : MtV l yJ0_checkIndex_df160 (wl yJ0_checkIndex_df160 cJ0_checkIndex_df160 2 none) rm_J0_checkIndex E [.int i, .int n] [] [] := by
  refine mt_of (QQ := (fun A => va_Qv (fun _ : Unit => True) (fun _ t => QW E [] t) A)) (by decide) (Nat.le_of_ble_eq_true rfl) (fun p e s m below meth c A ls X hr hP hD hS hl => ?_)
  have hx := X.1.1
  have hb := X.1.2.1
  have hl : lv_has ls 2 [(0, .int i), (1, .int n)] := hl
  refine lv_iload_n hx hb dJ0_checkIndex_df160_0 rfl (lv_at hl 0 rfl) ?_
  refine lv_iload_n hx hb dJ0_checkIndex_df160_1 rfl (lv_at hl 1 rfl) ?_
  rcases X.2.2.1.fmt with hZ | ⟨t, hZ⟩
  · refine va_gets hx hb hZ hS X.1.2.2.2.1 (X.1.2.2.2.2 _ fl_J0_1053) (fun _ h9 => h9) dJ0_checkIndex_df160_2 ?_
    refine cS_roI X (As := [.int i, .int n, .null]) (rest := []) (c_J3_checkIndex l E i n .null (Or.inl rfl) h1 h2) ps_J3_checkIndex ml_J0_1059 ⟨rfl, rfl⟩ ⟨(Nat.le_of_ble_eq_true rfl), (Nat.le_of_ble_eq_true rfl)⟩ hP hD hS (is := []) rfl rfl rfl hl.1 rfl (Nat.le_of_ble_eq_true rfl) dJ0_checkIndex_df160_5 ⟨Nat.le_refl _, Nat.le_refl _⟩ (fun H locs hP hS => ?_)
    refine lv_pop hx hb dJ0_checkIndex_df160_8 rfl ?_
    exact r_vret X hr hP hS rfl dJ0_checkIndex_df160_9
  · refine va_gets hx hb hZ hS X.1.2.2.2.1 (X.1.2.2.2.2 _ fl_J0_1053) (fun _ h9 => h9) dJ0_checkIndex_df160_2 ?_
    refine cS_roI X (As := [.int i, .int n, .ref t]) (rest := []) (c_J3_checkIndex l E i n (.ref t) (Or.inr ⟨t, rfl⟩) h1 h2) ps_J3_checkIndex ml_J0_1059 ⟨rfl, rfl⟩ ⟨(Nat.le_of_ble_eq_true rfl), (Nat.le_of_ble_eq_true rfl)⟩ hP hD hS (is := []) rfl rfl rfl hl.1 rfl (Nat.le_of_ble_eq_true rfl) dJ0_checkIndex_df160_5 ⟨Nat.le_refl _, Nat.le_refl _⟩ (fun H locs hP hS => ?_)
    refine lv_pop hx hb dJ0_checkIndex_df160_8 rfl ?_
    exact r_vret X hr hP hS rfl dJ0_checkIndex_df160_9
/-- the texts' bytes are small -/
theorem am_small : ∀ i, i < 4 → am_len.getD i 0 ≤ 7 ∧ ∀ j, j < 7 → ((am_byt.getD i []).getD j 0) &&& 255 = (am_byt.getD i []).getD j 0 := by decide +kernel
theorem am_idx {i : Nat} {k : Int32} (hi : i < 4) (h : vp_in k (am_len.getD i 0)) : k.toNatClampNeg < 7 ∧ ¬ k < 0 ∧ k < Int32.ofNat (am_len.getD i 0) := by
  have h7 := (am_small i hi).1
  obtain ⟨j, hj, rfl⟩ := vp_in_of h (by omega)
  rw [nI_clamp (by omega)]
  exact ⟨by omega, nI_pos (by omega), nI_lt hj (by omega)⟩
set_option maxHeartbeats 4000000 in
set_option maxRecDepth 100000 in
theorem c_J1_charAt (l : Launch) (E : Ev) (i : Nat) (k : Int32) (hi : i < 4) (hk : vp_in k (am_len.getD i 0)) : MtI l yJ1_charAt_3b067 (wl yJ1_charAt_3b067 cJ1_charAt_3b067 2 (some .char)) rm_J1_charAt E [.ref (E.2.2 (20 + i)), .int k] [] ((am_byt.getD i []).getD k.toNatClampNeg 0) [] := by
  obtain ⟨h7, hp, hlt⟩ := am_idx hi hk
  have hbb := (am_small i hi).2 k.toNatClampNeg h7
  generalize hbe : (am_byt.getD i []).getD k.toNatClampNeg 0 = bb at hbb ⊢
  refine mt_of (QQ := (fun A => va_Qi (fun x (_ : Unit) => x = bb) (fun _ t => QW E [] t) A)) (by decide) (Nat.le_of_ble_eq_true rfl) (fun p e s m below meth c A ls X hr hP hD hS hl => ?_)
  have hx := X.1.1
  have hb := X.1.2.1
  have hT := (X.2.2.1.strs.1 i hi).2.2.2
  have hl : lv_has ls 2 [(0, .ref (E.2.2 (20 + i))), (1, .int k)] := hl
  refine lv_iload_n hx hb dJ1_charAt_3b067_0 rfl (lv_at hl 1 rfl) ?_
  refine lv_aload_n hx hb dJ1_charAt_3b067_1 rfl (lv_at hl 0 rfl) ?_
  refine va_tlen hx hb hT hS rfl dJ1_charAt_3b067_2 ?_
  refine cS_roV X (As := [.int k, .int (Int32.ofNat (am_len.getD i 0))]) (rest := []) (c_J0_checkIndex l E k _ hp hlt) ps_J0_checkIndex ml_J1_9 ⟨rfl, rfl⟩ ⟨(Nat.le_of_ble_eq_true rfl), (Nat.le_of_ble_eq_true rfl)⟩ hP hD hS (is := []) rfl rfl rfl hl.1 rfl (Nat.le_of_ble_eq_true rfl) dJ1_charAt_3b067_3 ⟨Nat.le_refl _, Nat.le_refl _⟩ (fun H locs hP hS => ?_)
  refine lv_aload_n hx hb dJ1_charAt_3b067_6 rfl (lv_at hl 0 rfl) ?_
  refine lv_iload_n hx hb dJ1_charAt_3b067_7 rfl (lv_at hl 1 rfl) ?_
  refine va_tb hx hb hT hS hk (v := .int bb) (by rw [← hbe]) dJ1_charAt_3b067_8 ?_
  refine lv_sipush (v := 255) hx hb dJ1_charAt_3b067_9 (by decide) ?_
  refine lv_iand hx hb dJ1_charAt_3b067_12 ?_
  refine lv_i2c (v := bb) hx hb dJ1_charAt_3b067_13 (by rw [sc_c2, hbb]) ?_
  exact r_cret X hr hP hS (by rw [← hbb]; exact sc_nar bb) rfl rfl dJ1_charAt_3b067_14
set_option maxHeartbeats 4000000 in
set_option maxRecDepth 100000 in
theorem c_J0_isLatin1 (l : Launch) (E : Ev) (i : Nat) (hi : i < 4) : MtI l yJ0_isLatin1_aae02 (wl yJ0_isLatin1_aae02 cJ0_isLatin1_aae02 1 (some .boolean)) rm_00 E [.ref (E.2.2 (10 + i))] [] 1 [] := by
  refine mt_of (QQ := (fun A => va_Qi (fun x (_ : Unit) => x = 1) (fun _ t => QW E [] t) A)) (by decide) (Nat.le_of_ble_eq_true rfl) (fun p e s m below meth c A ls X hr hP hD hS hl => ?_)
  have hx := X.1.1
  have hb := X.1.2.1
  have hT := (X.2.2.1.strs.1 i hi).2.1
  have hl : lv_has ls 1 [(0, .ref (E.2.2 (10 + i)))] := hl
  refine va_gets hx hb X.2.2.1.compact hS X.1.2.2.2.1 (X.1.2.2.2.2 _ fl_J0_38) (fun _ h9 => h9) dJ0_isLatin1_aae02_0 ?_
  refine lv_if_eq (tgt := 17) hx hb dJ0_isLatin1_aae02_3 (by decide) (fun c => absurd c (by decide)) (fun _ => ?_)
  refine lv_aload_n hx hb dJ0_isLatin1_aae02_6 rfl (lv_at hl 0 rfl) ?_
  refine vk_getf hx hb hT hS X.1.2.2.2.1 (X.1.2.2.2.2 _ fl_J0_15) (fun _ h9 => h9) dJ0_isLatin1_aae02_7 ?_
  refine lv_if_ne (tgt := 17) hx hb dJ0_isLatin1_aae02_10 (by decide) (fun c => absurd rfl c) (fun _ => ?_)
  refine lv_iconst (v := 1) hx hb dJ0_isLatin1_aae02_13 (by decide) ?_
  refine lv_goto (tgt := 18) hx hb dJ0_isLatin1_aae02_14 (by decide) ?_
  exact r_zret X hr hP hS rfl rfl rfl dJ0_isLatin1_aae02_18
set_option maxHeartbeats 4000000 in
set_option maxRecDepth 100000 in
theorem c_J0_coder (l : Launch) (E : Ev) (i : Nat) (hi : i < 4) : MtI l yJ0_coder_7d493 (wl yJ0_coder_7d493 cJ0_coder_7d493 1 (some .byte)) rm_00 E [.ref (E.2.2 (10 + i))] [] 0 [] := by
  refine mt_of (QQ := (fun A => va_Qi (fun x (_ : Unit) => x = 0) (fun _ t => QW E [] t) A)) (by decide) (Nat.le_of_ble_eq_true rfl) (fun p e s m below meth c A ls X hr hP hD hS hl => ?_)
  have hx := X.1.1
  have hb := X.1.2.1
  have hT := (X.2.2.1.strs.1 i hi).2.1
  have hl : lv_has ls 1 [(0, .ref (E.2.2 (10 + i)))] := hl
  refine va_gets hx hb X.2.2.1.compact hS X.1.2.2.2.1 (X.1.2.2.2.2 _ fl_J0_38) (fun _ h9 => h9) dJ0_coder_7d493_0 ?_
  refine lv_if_eq (tgt := 13) hx hb dJ0_coder_7d493_3 (by decide) (fun c => absurd c (by decide)) (fun _ => ?_)
  refine lv_aload_n hx hb dJ0_coder_7d493_6 rfl (lv_at hl 0 rfl) ?_
  refine vk_getf hx hb hT hS X.1.2.2.2.1 (X.1.2.2.2.2 _ fl_J0_15) (fun _ h9 => h9) dJ0_coder_7d493_7 ?_
  refine lv_goto (tgt := 14) hx hb dJ0_coder_7d493_10 (by decide) ?_
  exact r_bret X hr hP hS rfl rfl rfl dJ0_coder_7d493_14
set_option maxHeartbeats 4000000 in
set_option maxRecDepth 100000 in
theorem c_J0_length (l : Launch) (E : Ev) (i : Nat) {out : Int32} (hf : st_len i = some out) : MtI l yJ0_length_8abf5 (wl yJ0_length_8abf5 cJ0_length_8abf5 1 (some .int)) rm_J0_length_8abf5 E [.ref (E.2.2 (10 + i))] [] out [] := by
  have hi := st_len_lt hf
  have ho : out = nI (am_len.getD i 0) := by
    unfold st_len at hf
    rw [if_pos hi] at hf
    exact (Option.some.inj hf).symm
  refine mt_of (QQ := (fun A => va_Qi (fun x (_ : Unit) => x = out) (fun _ t => QW E [] t) A)) (by decide) (Nat.le_of_ble_eq_true rfl) (fun p e s m below meth c A ls X hr hP hD hS hl => ?_)
  have hx := X.1.1
  have hb := X.1.2.1
  have hT := X.2.2.1.strs.1 i hi
  have hl : lv_has ls 1 [(0, .ref (E.2.2 (10 + i)))] := hl
  refine lv_aload_n hx hb dJ0_length_8abf5_0 rfl (lv_at hl 0 rfl) ?_
  refine vk_getf hx hb hT.2.2.1 hS X.1.2.2.2.1 (X.1.2.2.2.2 _ fl_J0_9) (fun _ h9 => h9) dJ0_length_8abf5_1 ?_
  refine va_tlen hx hb hT.2.2.2 hS rfl dJ0_length_8abf5_4 ?_
  refine lv_aload_n hx hb dJ0_length_8abf5_5 rfl (lv_at hl 0 rfl) ?_
  refine cStr X (As := []) (rest := [.int (Int32.ofNat (am_len.getD i 0))]) (c_J0_coder l E i hi) hi pv_J0_coder ml_J0_335 ⟨rfl, rfl⟩ ⟨(Nat.le_of_ble_eq_true rfl), (Nat.le_of_ble_eq_true rfl)⟩ hP hD hS rfl hl.1 rfl (Nat.le_of_ble_eq_true rfl) dJ0_length_8abf5_6 ⟨Nat.le_refl _, Nat.le_refl _⟩ (fun H locs hP hS => ?_)
  refine lv_ishr hx hb dJ0_length_8abf5_9 ?_
  exact r_iret X hr hP hS (by rw [sb_shr0, ho]; rfl) rfl dJ0_length_8abf5_10
theorem st_at_spec {i : Nat} {k out : Int32} (hf : st_at i k = some out) : i < 4 ∧ vp_in k (am_len.getD i 0) ∧ out = (am_byt.getD i []).getD k.toNatClampNeg 0 := by
  have hi := st_at_lt hf
  unfold st_at at hf
  rw [if_pos hi] at hf
  obtain ⟨h1, h2⟩ := chk_in hf
  exact ⟨hi, h1, (Option.some.inj h2).symm⟩
set_option maxHeartbeats 4000000 in
set_option maxRecDepth 100000 in
theorem c_J0_charAt (l : Launch) (E : Ev) (i : Nat) (k : Int32) {out : Int32} (hf : st_at i k = some out) : MtI l yJ0_charAt_5068e (wl yJ0_charAt_5068e cJ0_charAt_5068e 2 (some .char)) rm_J0_charAt_5068e E [.ref (E.2.2 (10 + i)), .int k] [] out [] := by
  obtain ⟨hi, hk, ho⟩ := st_at_spec hf
  have hbb := (am_small i hi).2 k.toNatClampNeg (am_idx hi hk).1
  rw [← ho] at hbb
  refine mt_of (QQ := (fun A => va_Qi (fun x (_ : Unit) => x = out) (fun _ t => QW E [] t) A)) (by decide) (Nat.le_of_ble_eq_true rfl) (fun p e s m below meth c A ls X hr hP hD hS hl => ?_)
  have hx := X.1.1
  have hb := X.1.2.1
  have hT := X.2.2.1.strs.1 i hi
  have hl : lv_has ls 2 [(0, .ref (E.2.2 (10 + i))), (1, .int k)] := hl
  refine lv_aload_n hx hb dJ0_charAt_5068e_0 rfl (lv_at hl 0 rfl) ?_
  refine cStr X (As := []) (rest := []) (c_J0_isLatin1 l E i hi) hi pv_J0_isLatin1 ml_J0_492 ⟨rfl, rfl⟩ ⟨(Nat.le_of_ble_eq_true rfl), (Nat.le_of_ble_eq_true rfl)⟩ hP hD hS rfl hl.1 rfl (Nat.le_of_ble_eq_true rfl) dJ0_charAt_5068e_1 ⟨Nat.le_refl _, Nat.le_refl _⟩ (fun H locs hP hS => ?_)
  refine lv_if_eq (tgt := 16) hx hb dJ0_charAt_5068e_4 (by decide) (fun c => absurd c (by decide)) (fun _ => ?_)
  refine lv_aload_n hx hb dJ0_charAt_5068e_7 rfl (lv_at hl 0 rfl) ?_
  refine vk_getf hx hb hT.2.2.1 hS X.1.2.2.2.1 (X.1.2.2.2.2 _ fl_J0_9) (fun _ h9 => h9) dJ0_charAt_5068e_8 ?_
  refine lv_iload_n hx hb dJ0_charAt_5068e_11 rfl (lv_at hl 1 rfl) ?_
  refine cS_roI X (As := [.ref (E.2.2 (20 + i)), .int k]) (rest := []) (c_J1_charAt l E i k hi hk) ps_J1_charAt ml_J0_495 ⟨rfl, rfl⟩ ⟨(Nat.le_of_ble_eq_true rfl), (Nat.le_of_ble_eq_true rfl)⟩ hP hD hS (is := []) rfl rfl rfl hl.1 rfl (Nat.le_of_ble_eq_true rfl) dJ0_charAt_5068e_12 ⟨Nat.le_refl _, Nat.le_refl _⟩ (fun H locs hP hS => ?_)
  rw [← ho]
  exact r_cret X hr hP hS (by rw [← hbb]; exact sc_nar out) rfl rfl dJ0_charAt_5068e_15
