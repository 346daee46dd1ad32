theorem wX6_cg {E : Ev} {a a' : Nat → Nat} {σ σ' : Sg} (ha : ∀ k, k < 8 → a k = a' k) (hs : ∀ k, k < 8 → σ k = σ' k) : wX6 E a σ = wX6 E a' σ' := by
  unfold wX6
  rw [ha 0 (by decide), ha 1 (by decide), ha 2 (by decide), ha 3 (by decide), ha 4 (by decide), ha 5 (by decide), ha 6 (by decide), ha 7 (by decide), hs 0 (by decide), hs 1 (by decide), hs 2 (by decide), hs 3 (by decide), hs 4 (by decide), hs 5 (by decide), hs 6 (by decide), hs 7 (by decide)]
theorem wX1_cg {E : Ev} {a a' : Nat → Nat} {σ σ' : Sg} (ha : ∀ k, k < 5 → a k = a' k) (hs : ∀ k, k < 5 → σ k = σ' k) : wX1 E a σ = wX1 E a' σ' := by
  unfold wX1
  rw [ha 0 (by decide), ha 1 (by decide), ha 2 (by decide), ha 3 (by decide), ha 4 (by decide), hs 0 (by decide), hs 1 (by decide), hs 2 (by decide), hs 3 (by decide), hs 4 (by decide)]
theorem wX3_cg {E : Ev} {a a' : Nat → Nat} {σ σ' : Sg} (ha : ∀ k, k < 6 → a k = a' k) (hs : ∀ k, k < 6 → σ k = σ' k) : wX3 E a σ = wX3 E a' σ' := by
  unfold wX3
  rw [ha 0 (by decide), ha 1 (by decide), ha 2 (by decide), ha 3 (by decide), ha 4 (by decide), ha 5 (by decide), hs 0 (by decide), hs 1 (by decide), hs 2 (by decide), hs 3 (by decide), hs 4 (by decide), hs 5 (by decide)]
theorem wX0_cg {E : Ev} {a a' : Nat → Nat} {σ σ' : Sg} (ha : ∀ k, k < 4 → a k = a' k) (hs : ∀ k, k < 4 → σ k = σ' k) : wX0 E a σ = wX0 E a' σ' := by
  unfold wX0
  rw [ha 0 (by decide), ha 1 (by decide), ha 2 (by decide), ha 3 (by decide), hs 0 (by decide), hs 1 (by decide), hs 2 (by decide), hs 3 (by decide)]
theorem wX2_cg {E : Ev} {a a' : Nat → Nat} {σ σ' : Sg} (ha : ∀ k, k < 3 → a k = a' k) (hs : ∀ k, k < 3 → σ k = σ' k) : wX2 E a σ = wX2 E a' σ' := by
  unfold wX2
  rw [ha 0 (by decide), ha 1 (by decide), ha 2 (by decide), hs 0 (by decide), hs 1 (by decide), hs 2 (by decide)]
theorem wX4_cg {E : Ev} {a a' : Nat → Nat} {σ σ' : Sg} (ha : ∀ k, k < 3 → a k = a' k) (hs : ∀ k, k < 3 → σ k = σ' k) : wX4 E a σ = wX4 E a' σ' := by
  unfold wX4
  rw [ha 0 (by decide), ha 1 (by decide), ha 2 (by decide), hs 0 (by decide), hs 1 (by decide), hs 2 (by decide)]
theorem wX5_cg {E : Ev} {a a' : Nat → Nat} {σ σ' : Sg} (ha : ∀ k, k < 22 → a k = a' k) (hs : ∀ k, k < 22 → σ k = σ' k) : wX5 E a σ = wX5 E a' σ' := by
  unfold wX5
  rw [ha 0 (by decide), ha 1 (by decide), ha 2 (by decide), ha 3 (by decide), ha 4 (by decide), ha 5 (by decide), ha 6 (by decide), ha 7 (by decide), ha 8 (by decide), ha 9 (by decide), ha 10 (by decide), ha 11 (by decide), ha 12 (by decide), ha 13 (by decide), ha 14 (by decide), ha 15 (by decide), ha 16 (by decide), ha 17 (by decide), ha 18 (by decide), ha 19 (by decide), ha 20 (by decide), ha 21 (by decide), hs 0 (by decide), hs 1 (by decide), hs 2 (by decide), hs 4 (by decide), hs 5 (by decide), hs 6 (by decide), hs 7 (by decide), hs 8 (by decide), hs 9 (by decide), hs 10 (by decide), hs 11 (by decide), hs 12 (by decide), hs 13 (by decide), hs 14 (by decide), hs 15 (by decide), hs 16 (by decide), hs 17 (by decide), hs 18 (by decide), hs 19 (by decide), hs 20 (by decide), hs 21 (by decide)]
set_option maxRecDepth 20000 in
theorem wX8_sp (E : Ev) (a : Nat → Nat) (σ : Sg) (tr : Int64) : (wX8 E a σ tr) = ([(a 0, .inr (8, [.ref (a 1), .ref (a 2), .ref (a 9), .ref (a 14), .ref (a 20), .ref (a 26), .ref (a 30), .ref (a 33), .ref (a 40), .ref (a 43), .long tr]))] : va_W) ++ wX6 E (sg_off a 1) (sg_off σ 1) ++ wX1 E (sg_off a 9) (sg_off σ 9) ++ wX3 E (sg_off a 14) (sg_off σ 14) ++ wX3 E (sg_off a 20) (sg_off σ 20) ++ wX0 E (sg_off a 26) (sg_off σ 26) ++ wX2 E (sg_off a 30) (sg_off σ 30) ++ [(a 33, .inl (E.2.1 2, 2, .inr (.inr (.inr (.inr (fun j => if j = 1 then some (a 37) else if j = 0 then some (a 34) else none))))))] ++ wX2 E (sg_off a 34) (sg_off σ 34) ++ wX2 E (sg_off a 37) (sg_off σ 37) ++ wX4 E (sg_off a 40) (sg_off σ 40) ++ wX5 E (sg_off a 43) (sg_off σ 43) := rfl
set_option maxRecDepth 100000 in
set_option maxHeartbeats 4000000 in
theorem hwX8 (E : Ev) (h0 q7 : Nat) (u1 u2 u3 u4 u5 u6 u10 u11 u8 u9 : Nat → Nat) (cz1 cz2 : Sg) (u : Nat → Nat) (σ : Sg) (h_u : ∀ k, u k = (fun k => if k = 0 then h0 else if k < 9 then u1 (k - 1) else if k < 14 then u2 (k - 9) else if k < 20 then u3 (k - 14) else if k < 26 then u4 (k - 20) else if k < 30 then u5 (k - 26) else if k < 33 then u6 (k - 30) else if k < 34 then q7 else if k < 37 then u10 (k - 34) else if k < 40 then u11 (k - 37) else if k < 43 then u8 (k - 40) else u9 (k - 43)) k) (h_s : ∀ k, σ k = (sg_sp (sg_sp sgz 1 8 cz1) 9 5 cz2) k) : (([(h0, .inr (8, [.ref (u1 0), .ref (u1 1), .ref (u2 0), .ref (u3 0), .ref (u4 0), .ref (u5 0), .ref (u6 0), .ref q7, .ref (u8 0), .ref (u9 0), .long 0]))] : va_W) ++ wX6 E u1 cz1 ++ wX1 E u2 cz2 ++ wX3 E u3 sgz ++ wX3 E u4 sgz ++ wX0 E u5 sgz ++ wX2 E u6 sgz ++ [(q7, .inl (E.2.1 2, 2, .inr (.inr (.inr (.inr (va_up (va_up (fun _ => none) (0 : Int32).toNatClampNeg (some (u10 0))) (1 : Int32).toNatClampNeg (some (u11 0))))))))] ++ wX2 E u10 sgz ++ wX2 E u11 sgz ++ wX4 E u8 sgz ++ wX5 E u9 sgz) = wX8 E u σ 0 ∧ h0 = u 0 := by
  have k0 : wX6 E u1 cz1 = wX6 E (sg_off u 1) (sg_off σ 1) := wX6_cg (fun k hk => by
      show _ = u (1 + k)
      rw [h_u]
      show _ = if 1 + k = 0 then _ else _
      rw [if_neg (show ¬ (1 + k = 0) by omega), if_pos (show 1 + k < 9 by omega)]
      congr 1
      omega) (fun k hk => by
      show _ = σ (1 + k)
      rw [h_s]
      unfold sg_sp
      rw [if_neg (show ¬ (9 ≤ 1 + k ∧ 1 + k < 9 + 5) by omega), if_pos (show 1 ≤ 1 + k ∧ 1 + k < 1 + 8 by omega)]
      congr 1
      omega)
  have k1 : wX1 E u2 cz2 = wX1 E (sg_off u 9) (sg_off σ 9) := wX1_cg (fun k hk => by
      show _ = u (9 + k)
      rw [h_u]
      show _ = if 9 + k = 0 then _ else _
      rw [if_neg (show ¬ (9 + k = 0) by omega), if_neg (show ¬ (9 + k < 9) by omega), if_pos (show 9 + k < 14 by omega)]
      congr 1
      omega) (fun k hk => by
      show _ = σ (9 + k)
      rw [h_s]
      unfold sg_sp
      rw [if_pos (show 9 ≤ 9 + k ∧ 9 + k < 9 + 5 by omega)]
      congr 1
      omega)
  have k2 : wX3 E u3 sgz = wX3 E (sg_off u 14) (sg_off σ 14) := wX3_cg (fun k hk => by
      show _ = u (14 + k)
      rw [h_u]
      show _ = if 14 + k = 0 then _ else _
      rw [if_neg (show ¬ (14 + k = 0) by omega), if_neg (show ¬ (14 + k < 9) by omega), if_neg (show ¬ (14 + k < 14) by omega), if_pos (show 14 + k < 20 by omega)]
      congr 1
      omega) (fun k hk => by
      show _ = σ (14 + k)
      rw [h_s]
      unfold sg_sp
      rw [if_neg (show ¬ (9 ≤ 14 + k ∧ 14 + k < 9 + 5) by omega), if_neg (show ¬ (1 ≤ 14 + k ∧ 14 + k < 1 + 8) by omega)]
      rfl)
  have k3 : wX3 E u4 sgz = wX3 E (sg_off u 20) (sg_off σ 20) := wX3_cg (fun k hk => by
      show _ = u (20 + k)
      rw [h_u]
      show _ = if 20 + k = 0 then _ else _
      rw [if_neg (show ¬ (20 + k = 0) by omega), if_neg (show ¬ (20 + k < 9) by omega), if_neg (show ¬ (20 + k < 14) by omega), if_neg (show ¬ (20 + k < 20) by omega), if_pos (show 20 + k < 26 by omega)]
      congr 1
      omega) (fun k hk => by
      show _ = σ (20 + k)
      rw [h_s]
      unfold sg_sp
      rw [if_neg (show ¬ (9 ≤ 20 + k ∧ 20 + k < 9 + 5) by omega), if_neg (show ¬ (1 ≤ 20 + k ∧ 20 + k < 1 + 8) by omega)]
      rfl)
  have k4 : wX0 E u5 sgz = wX0 E (sg_off u 26) (sg_off σ 26) := wX0_cg (fun k hk => by
      show _ = u (26 + k)
      rw [h_u]
      show _ = if 26 + k = 0 then _ else _
      rw [if_neg (show ¬ (26 + k = 0) by omega), if_neg (show ¬ (26 + k < 9) by omega), if_neg (show ¬ (26 + k < 14) by omega), if_neg (show ¬ (26 + k < 20) by omega), if_neg (show ¬ (26 + k < 26) by omega), if_pos (show 26 + k < 30 by omega)]
      congr 1
      omega) (fun k hk => by
      show _ = σ (26 + k)
      rw [h_s]
      unfold sg_sp
      rw [if_neg (show ¬ (9 ≤ 26 + k ∧ 26 + k < 9 + 5) by omega), if_neg (show ¬ (1 ≤ 26 + k ∧ 26 + k < 1 + 8) by omega)]
      rfl)
  have k5 : wX2 E u6 sgz = wX2 E (sg_off u 30) (sg_off σ 30) := wX2_cg (fun k hk => by
      show _ = u (30 + k)
      rw [h_u]
      show _ = if 30 + k = 0 then _ else _
      rw [if_neg (show ¬ (30 + k = 0) by omega), if_neg (show ¬ (30 + k < 9) by omega), if_neg (show ¬ (30 + k < 14) by omega), if_neg (show ¬ (30 + k < 20) by omega), if_neg (show ¬ (30 + k < 26) by omega), if_neg (show ¬ (30 + k < 30) by omega), if_pos (show 30 + k < 33 by omega)]
      congr 1
      omega) (fun k hk => by
      show _ = σ (30 + k)
      rw [h_s]
      unfold sg_sp
      rw [if_neg (show ¬ (9 ≤ 30 + k ∧ 30 + k < 9 + 5) by omega), if_neg (show ¬ (1 ≤ 30 + k ∧ 30 + k < 1 + 8) by omega)]
      rfl)
  have k7 : wX2 E u10 sgz = wX2 E (sg_off u 34) (sg_off σ 34) := wX2_cg (fun k hk => by
      show _ = u (34 + k)
      rw [h_u]
      show _ = if 34 + k = 0 then _ else _
      rw [if_neg (show ¬ (34 + k = 0) by omega), if_neg (show ¬ (34 + k < 9) by omega), if_neg (show ¬ (34 + k < 14) by omega), if_neg (show ¬ (34 + k < 20) by omega), if_neg (show ¬ (34 + k < 26) by omega), if_neg (show ¬ (34 + k < 30) by omega), if_neg (show ¬ (34 + k < 33) by omega), if_neg (show ¬ (34 + k < 34) by omega), if_pos (show 34 + k < 37 by omega)]
      congr 1
      omega) (fun k hk => by
      show _ = σ (34 + k)
      rw [h_s]
      unfold sg_sp
      rw [if_neg (show ¬ (9 ≤ 34 + k ∧ 34 + k < 9 + 5) by omega), if_neg (show ¬ (1 ≤ 34 + k ∧ 34 + k < 1 + 8) by omega)]
      rfl)
  have k8 : wX2 E u11 sgz = wX2 E (sg_off u 37) (sg_off σ 37) := wX2_cg (fun k hk => by
      show _ = u (37 + k)
      rw [h_u]
      show _ = if 37 + k = 0 then _ else _
      rw [if_neg (show ¬ (37 + k = 0) by omega), if_neg (show ¬ (37 + k < 9) by omega), if_neg (show ¬ (37 + k < 14) by omega), if_neg (show ¬ (37 + k < 20) by omega), if_neg (show ¬ (37 + k < 26) by omega), if_neg (show ¬ (37 + k < 30) by omega), if_neg (show ¬ (37 + k < 33) by omega), if_neg (show ¬ (37 + k < 34) by omega), if_neg (show ¬ (37 + k < 37) by omega), if_pos (show 37 + k < 40 by omega)]
      congr 1
      omega) (fun k hk => by
      show _ = σ (37 + k)
      rw [h_s]
      unfold sg_sp
      rw [if_neg (show ¬ (9 ≤ 37 + k ∧ 37 + k < 9 + 5) by omega), if_neg (show ¬ (1 ≤ 37 + k ∧ 37 + k < 1 + 8) by omega)]
      rfl)
  have k9 : wX4 E u8 sgz = wX4 E (sg_off u 40) (sg_off σ 40) := wX4_cg (fun k hk => by
      show _ = u (40 + k)
      rw [h_u]
      show _ = if 40 + k = 0 then _ else _
      rw [if_neg (show ¬ (40 + k = 0) by omega), if_neg (show ¬ (40 + k < 9) by omega), if_neg (show ¬ (40 + k < 14) by omega), if_neg (show ¬ (40 + k < 20) by omega), if_neg (show ¬ (40 + k < 26) by omega), if_neg (show ¬ (40 + k < 30) by omega), if_neg (show ¬ (40 + k < 33) by omega), if_neg (show ¬ (40 + k < 34) by omega), if_neg (show ¬ (40 + k < 37) by omega), if_neg (show ¬ (40 + k < 40) by omega), if_pos (show 40 + k < 43 by omega)]
      congr 1
      omega) (fun k hk => by
      show _ = σ (40 + k)
      rw [h_s]
      unfold sg_sp
      rw [if_neg (show ¬ (9 ≤ 40 + k ∧ 40 + k < 9 + 5) by omega), if_neg (show ¬ (1 ≤ 40 + k ∧ 40 + k < 1 + 8) by omega)]
      rfl)
  have k10 : wX5 E u9 sgz = wX5 E (sg_off u 43) (sg_off σ 43) := wX5_cg (fun k hk => by
      show _ = u (43 + k)
      rw [h_u]
      show _ = if 43 + k = 0 then _ else _
      rw [if_neg (show ¬ (43 + k = 0) by omega), if_neg (show ¬ (43 + k < 9) by omega), if_neg (show ¬ (43 + k < 14) by omega), if_neg (show ¬ (43 + k < 20) by omega), if_neg (show ¬ (43 + k < 26) by omega), if_neg (show ¬ (43 + k < 30) by omega), if_neg (show ¬ (43 + k < 33) by omega), if_neg (show ¬ (43 + k < 34) by omega), if_neg (show ¬ (43 + k < 37) by omega), if_neg (show ¬ (43 + k < 40) by omega), if_neg (show ¬ (43 + k < 43) by omega)]
      congr 1
      omega) (fun k hk => by
      show _ = σ (43 + k)
      rw [h_s]
      unfold sg_sp
      rw [if_neg (show ¬ (9 ≤ 43 + k ∧ 43 + k < 9 + 5) by omega), if_neg (show ¬ (1 ≤ 43 + k ∧ 43 + k < 1 + 8) by omega)]
      rfl)
  have e0 : h0 = u 0 := by rw [h_u]; rfl
  have e0_0 : u1 0 = u 1 := by rw [h_u]; rfl
  have e0_1 : u1 1 = u 2 := by rw [h_u]; rfl
  have e1_0 : u2 0 = u 9 := by rw [h_u]; rfl
  have e2_0 : u3 0 = u 14 := by rw [h_u]; rfl
  have e3_0 : u4 0 = u 20 := by rw [h_u]; rfl
  have e4_0 : u5 0 = u 26 := by rw [h_u]; rfl
  have e5_0 : u6 0 = u 30 := by rw [h_u]; rfl
  have e7 : q7 = u 33 := by rw [h_u]; rfl
  have e7_0 : u10 0 = u 34 := by rw [h_u]; rfl
  have e8_0 : u11 0 = u 37 := by rw [h_u]; rfl
  have e9_0 : u8 0 = u 40 := by rw [h_u]; rfl
  have e10_0 : u9 0 = u 43 := by rw [h_u]; rfl
  have ei : (va_up (va_up (fun _ => none) (0 : Int32).toNatClampNeg (some (u 34))) (1 : Int32).toNatClampNeg (some (u 37))) = (fun j => if j = 1 then some (u 37) else if j = 0 then some (u 34) else none) := rfl
  refine ⟨?_, e0⟩
  rw [k0, k1, k2, k3, k4, k5, k7, k8, k9, k10, e0, e0_0, e0_1, e1_0, e2_0, e3_0, e4_0, e5_0, e7, e7_0, e8_0, e9_0, e10_0, ei, wX8_sp]
noncomputable def f_X8_init : Option (Sg) :=
  (f_X6_init).bind fun cz1 =>
  (f_X1_init).bind fun cz2 =>
  (f_X8_beginAnew (sg_sp (sg_sp sgz 1 8 cz1) 9 5 cz2) 0).bind fun z1 =>
  some z1
def rm_X8_init : Room := { frames := 6, cells := 64, slots := 937, locals := 138 }
set_option maxHeartbeats 40000000 in
set_option maxRecDepth 100000 in
theorem c_X8_init (l : Launch) (E : Ev) {out : Sg} (hf : f_X8_init = some out) : MtN l yX8_init cX8_init 2 rm_X8_init E 8 [.null, .null, .null, .null, .null, .null, .null, .null, .null, .null, .long 0] 64 937 (fun u => wX8 E u out 0) := by
  obtain ⟨cz1, hcz1, hf⟩ := obd hf
  obtain ⟨cz2, hcz2, hf⟩ := obd hf
  refine mtN_of (by decide) rfl (Nat.le_of_ble_eq_true rfl) (fun p e s m below meth c A ls h0 X hr hin hP hD hS hl => ?_)
  have hx := X.1.1
  have hb := X.1.2.1
  refine lv_aload_n hx hb dX8_init_0 rfl (lv_at hl 0 rfl) ?_
  refine r_obj X hl.1 ml_X8_1 (Nat.le_of_ble_eq_true rfl) (Nat.le_of_ble_eq_true rfl) dX8_init_1 ?_
  refine lv_aload_n hx hb dX8_init_4 rfl (lv_at hl 0 rfl) ?_
  refine r_newI X hl.1 hP hD hS (ci := 6) (fs := [.null, .null, .int 0, .int 0, .int 0, .int 0, .int 0, .int 0]) rfl inc_X6 tyX6 tyX6_ok ck_X8_7 ins_X6 ini_X6 rfl (fun j hj => by
      match j, hj with
      | 0, _ => rfl
      | 1, _ => rfl
      | 2, _ => rfl
      | 3, _ => rfl
      | 4, _ => rfl
      | 5, _ => rfl
      | 6, _ => rfl
      | 7, _ => rfl
      | k + 8, h => omega) (c_X6_init l E hcz1) cd_X6_init ml_X8_9 im_X6_init rfl (by decide +kernel) ⟨rfl, rfl⟩ ⟨(Nat.le_of_ble_eq_true rfl), (Nat.le_of_ble_eq_true rfl)⟩ (Nat.le_of_ble_eq_true rfl) (Nat.le_of_ble_eq_true rfl) (Nat.le_of_ble_eq_true rfl) dX8_init_5 dX8_init_8 dX8_init_9 (fun u1 H locs hP hD hS => ?_)
  refine r_putF (w' := ([(h0, .inr (8, [.ref (u1 0), .null, .null, .null, .null, .null, .null, .null, .null, .null, .long 0]))] : va_W) ++ wX6 E u1 cz1) X hin hP hD hS 0 rfl rfl inc_X8 tyX8 tyX8_ok nmX8 0 (by decide) fl_X8_10 rfl rfl rfl rfl (Nat.le_of_ble_eq_true rfl) rfl dX8_init_12 (fun H locs hP hD hS => ?_)
  refine lv_aload_n hx hb dX8_init_15 rfl (lv_at hl 0 rfl) ?_
  refine lv_aload_n hx hb dX8_init_16 rfl (lv_at hl 0 rfl) ?_
  refine r_get X hP 0 rfl rfl inc_X8 0 (by decide) fl_X8_10 rfl dX8_init_17 ?_
  refine r_get X hP 1 rfl rfl inc_X6 0 (by decide) fl_X8_16 rfl dX8_init_20 ?_
  refine r_putF (w' := ([(h0, .inr (8, [.ref (u1 0), .ref (u1 1), .null, .null, .null, .null, .null, .null, .null, .null, .long 0]))] : va_W) ++ wX6 E u1 cz1) X hin hP hD hS 0 rfl rfl inc_X8 tyX8 tyX8_ok nmX8 1 (by decide) fl_X8_20 rfl rfl rfl rfl (Nat.le_of_ble_eq_true rfl) rfl dX8_init_23 (fun H locs hP hD hS => ?_)
  refine lv_aload_n hx hb dX8_init_26 rfl (lv_at hl 0 rfl) ?_
  refine r_newI X hl.1 hP hD hS (ci := 1) (fs := [.int 0, .int 0, .int 0, .null, .null]) rfl inc_X1 tyX1 tyX1_ok ck_X8_21 ins_X1 ini_X1 rfl (fun j hj => by
      match j, hj with
      | 0, _ => rfl
      | 1, _ => rfl
      | 2, _ => rfl
      | 3, _ => rfl
      | 4, _ => rfl
      | k + 5, h => omega) (c_X1_init l E hcz2) cd_X1_init ml_X8_23 im_X1_init rfl (by decide +kernel) ⟨rfl, rfl⟩ ⟨(Nat.le_of_ble_eq_true rfl), (Nat.le_of_ble_eq_true rfl)⟩ (Nat.le_of_ble_eq_true rfl) (Nat.le_of_ble_eq_true rfl) (Nat.le_of_ble_eq_true rfl) dX8_init_27 dX8_init_30 dX8_init_31 (fun u2 H locs hP hD hS => ?_)
  refine r_putF (w' := ([(h0, .inr (8, [.ref (u1 0), .ref (u1 1), .ref (u2 0), .null, .null, .null, .null, .null, .null, .null, .long 0]))] : va_W) ++ wX6 E u1 cz1 ++ wX1 E u2 cz2) X hin hP hD hS 0 rfl rfl inc_X8 tyX8 tyX8_ok nmX8 2 (by decide) fl_X8_24 rfl rfl rfl rfl (Nat.le_of_ble_eq_true rfl) rfl dX8_init_34 (fun H locs hP hD hS => ?_)
  refine lv_aload_n hx hb dX8_init_37 rfl (lv_at hl 0 rfl) ?_
  refine r_newI X hl.1 hP hD hS (ci := 3) (fs := [.int 0, .int 0, .int 0, .null, .null, .null, .null, .null]) rfl inc_X3 tyX3 tyX3_ok ck_X8_28 ins_X3 ini_X3 rfl (fun j hj => by
      match j, hj with
      | 0, _ => rfl
      | 1, _ => rfl
      | 2, _ => rfl
      | 3, _ => rfl
      | 4, _ => rfl
      | 5, _ => rfl
      | 6, _ => rfl
      | 7, _ => rfl
      | k + 8, h => omega) (c_X3_init l E) cd_X3_init ml_X8_30 im_X3_init rfl (by decide +kernel) ⟨rfl, rfl⟩ ⟨(Nat.le_of_ble_eq_true rfl), (Nat.le_of_ble_eq_true rfl)⟩ (Nat.le_of_ble_eq_true rfl) (Nat.le_of_ble_eq_true rfl) (Nat.le_of_ble_eq_true rfl) dX8_init_38 dX8_init_41 dX8_init_42 (fun u3 H locs hP hD hS => ?_)
  refine r_putF (w' := ([(h0, .inr (8, [.ref (u1 0), .ref (u1 1), .ref (u2 0), .ref (u3 0), .null, .null, .null, .null, .null, .null, .long 0]))] : va_W) ++ wX6 E u1 cz1 ++ wX1 E u2 cz2 ++ wX3 E u3 sgz) X hin hP hD hS 0 rfl rfl inc_X8 tyX8 tyX8_ok nmX8 3 (by decide) fl_X8_31 rfl rfl rfl rfl (Nat.le_of_ble_eq_true rfl) rfl dX8_init_45 (fun H locs hP hD hS => ?_)
  refine lv_aload_n hx hb dX8_init_48 rfl (lv_at hl 0 rfl) ?_
  refine r_newI X hl.1 hP hD hS (ci := 3) (fs := [.int 0, .int 0, .int 0, .null, .null, .null, .null, .null]) rfl inc_X3 tyX3 tyX3_ok ck_X8_28 ins_X3 ini_X3 rfl (fun j hj => by
      match j, hj with
      | 0, _ => rfl
      | 1, _ => rfl
      | 2, _ => rfl
      | 3, _ => rfl
      | 4, _ => rfl
      | 5, _ => rfl
      | 6, _ => rfl
      | 7, _ => rfl
      | k + 8, h => omega) (c_X3_init l E) cd_X3_init ml_X8_30 im_X3_init rfl (by decide +kernel) ⟨rfl, rfl⟩ ⟨(Nat.le_of_ble_eq_true rfl), (Nat.le_of_ble_eq_true rfl)⟩ (Nat.le_of_ble_eq_true rfl) (Nat.le_of_ble_eq_true rfl) (Nat.le_of_ble_eq_true rfl) dX8_init_49 dX8_init_52 dX8_init_53 (fun u4 H locs hP hD hS => ?_)
  refine r_putF (w' := ([(h0, .inr (8, [.ref (u1 0), .ref (u1 1), .ref (u2 0), .ref (u3 0), .ref (u4 0), .null, .null, .null, .null, .null, .long 0]))] : va_W) ++ wX6 E u1 cz1 ++ wX1 E u2 cz2 ++ wX3 E u3 sgz ++ wX3 E u4 sgz) X hin hP hD hS 0 rfl rfl inc_X8 tyX8 tyX8_ok nmX8 4 (by decide) fl_X8_35 rfl rfl rfl rfl (Nat.le_of_ble_eq_true rfl) rfl dX8_init_56 (fun H locs hP hD hS => ?_)
  refine lv_aload_n hx hb dX8_init_59 rfl (lv_at hl 0 rfl) ?_
  refine r_newI X hl.1 hP hD hS (ci := 0) (fs := [.int 0, .null, .null, .null]) rfl inc_X0 tyX0 tyX0_ok ck_X8_38 ins_X0 ini_X0 rfl (fun j hj => by
      match j, hj with
      | 0, _ => rfl
      | 1, _ => rfl
      | 2, _ => rfl
      | 3, _ => rfl
      | k + 4, h => omega) (c_X0_init l E) cd_X0_init ml_X8_40 im_X0_init rfl (by decide +kernel) ⟨rfl, rfl⟩ ⟨(Nat.le_of_ble_eq_true rfl), (Nat.le_of_ble_eq_true rfl)⟩ (Nat.le_of_ble_eq_true rfl) (Nat.le_of_ble_eq_true rfl) (Nat.le_of_ble_eq_true rfl) dX8_init_60 dX8_init_63 dX8_init_64 (fun u5 H locs hP hD hS => ?_)
  refine r_putF (w' := ([(h0, .inr (8, [.ref (u1 0), .ref (u1 1), .ref (u2 0), .ref (u3 0), .ref (u4 0), .ref (u5 0), .null, .null, .null, .null, .long 0]))] : va_W) ++ wX6 E u1 cz1 ++ wX1 E u2 cz2 ++ wX3 E u3 sgz ++ wX3 E u4 sgz ++ wX0 E u5 sgz) X hin hP hD hS 0 rfl rfl inc_X8 tyX8 tyX8_ok nmX8 5 (by decide) fl_X8_41 rfl rfl rfl rfl (Nat.le_of_ble_eq_true rfl) rfl dX8_init_67 (fun H locs hP hD hS => ?_)
  refine lv_aload_n hx hb dX8_init_70 rfl (lv_at hl 0 rfl) ?_
  refine r_newI X hl.1 hP hD hS (ci := 2) (fs := [.int 0, .int 0, .int 0, .null, .null]) rfl inc_X2 tyX2 tyX2_ok ck_X8_45 ins_X2 ini_X2 rfl (fun j hj => by
      match j, hj with
      | 0, _ => rfl
      | 1, _ => rfl
      | 2, _ => rfl
      | 3, _ => rfl
      | 4, _ => rfl
      | k + 5, h => omega) (c_X2_init l E) cd_X2_init ml_X8_47 im_X2_init rfl (by decide +kernel) ⟨rfl, rfl⟩ ⟨(Nat.le_of_ble_eq_true rfl), (Nat.le_of_ble_eq_true rfl)⟩ (Nat.le_of_ble_eq_true rfl) (Nat.le_of_ble_eq_true rfl) (Nat.le_of_ble_eq_true rfl) dX8_init_71 dX8_init_74 dX8_init_75 (fun u6 H locs hP hD hS => ?_)
  refine r_putF (w' := ([(h0, .inr (8, [.ref (u1 0), .ref (u1 1), .ref (u2 0), .ref (u3 0), .ref (u4 0), .ref (u5 0), .ref (u6 0), .null, .null, .null, .long 0]))] : va_W) ++ wX6 E u1 cz1 ++ wX1 E u2 cz2 ++ wX3 E u3 sgz ++ wX3 E u4 sgz ++ wX0 E u5 sgz ++ wX2 E u6 sgz) X hin hP hD hS 0 rfl rfl inc_X8 tyX8 tyX8_ok nmX8 6 (by decide) fl_X8_48 rfl rfl rfl rfl (Nat.le_of_ble_eq_true rfl) rfl dX8_init_78 (fun H locs hP hD hS => ?_)
  refine lv_aload_n hx hb dX8_init_81 rfl (lv_at hl 0 rfl) ?_
  refine lv_iconst (v := 2) hx hb dX8_init_82 (by decide) ?_
  refine r_newq (t0 := 2) X hP hD hS ck_X8_45 X.2.2.1.ao2 rfl (N := 2) (by decide) (by decide) (Nat.le_of_ble_eq_true rfl) (Nat.le_of_ble_eq_true rfl) (Nat.le_of_ble_eq_true rfl) dX8_init_83 (fun q7 H hP hD hS => ?_)
  refine r_putF (w' := ([(h0, .inr (8, [.ref (u1 0), .ref (u1 1), .ref (u2 0), .ref (u3 0), .ref (u4 0), .ref (u5 0), .ref (u6 0), .ref q7, .null, .null, .long 0]))] : va_W) ++ wX6 E u1 cz1 ++ wX1 E u2 cz2 ++ wX3 E u3 sgz ++ wX3 E u4 sgz ++ wX0 E u5 sgz ++ wX2 E u6 sgz ++ [(q7, .inl (E.2.1 2, 2, .inr (.inr (.inr (.inr (fun _ => none))))))]) X hin hP hD hS 0 rfl rfl inc_X8 tyX8 tyX8_ok nmX8 7 (by decide) fl_X8_52 rfl rfl rfl rfl (Nat.le_of_ble_eq_true rfl) rfl dX8_init_86 (fun H locs hP hD hS => ?_)
  refine lv_aload_n hx hb dX8_init_89 rfl (lv_at hl 0 rfl) ?_
  refine r_newI X hl.1 hP hD hS (ci := 4) (fs := [.int 0, .null, .null]) rfl inc_X4 tyX4 tyX4_ok ck_X8_56 ins_X4 ini_X4 rfl (fun j hj => by
      match j, hj with
      | 0, _ => rfl
      | 1, _ => rfl
      | 2, _ => rfl
      | k + 3, h => omega) (c_X4_init l E) cd_X4_init ml_X8_58 im_X4_init rfl (by decide +kernel) ⟨rfl, rfl⟩ ⟨(Nat.le_of_ble_eq_true rfl), (Nat.le_of_ble_eq_true rfl)⟩ (Nat.le_of_ble_eq_true rfl) (Nat.le_of_ble_eq_true rfl) (Nat.le_of_ble_eq_true rfl) dX8_init_90 dX8_init_93 dX8_init_94 (fun u8 H locs hP hD hS => ?_)
  refine r_putF (w' := ([(h0, .inr (8, [.ref (u1 0), .ref (u1 1), .ref (u2 0), .ref (u3 0), .ref (u4 0), .ref (u5 0), .ref (u6 0), .ref q7, .ref (u8 0), .null, .long 0]))] : va_W) ++ wX6 E u1 cz1 ++ wX1 E u2 cz2 ++ wX3 E u3 sgz ++ wX3 E u4 sgz ++ wX0 E u5 sgz ++ wX2 E u6 sgz ++ [(q7, .inl (E.2.1 2, 2, .inr (.inr (.inr (.inr (fun _ => none))))))] ++ wX4 E u8 sgz) X hin hP hD hS 0 rfl rfl inc_X8 tyX8 tyX8_ok nmX8 8 (by decide) fl_X8_59 rfl rfl rfl rfl (Nat.le_of_ble_eq_true rfl) rfl dX8_init_97 (fun H locs hP hD hS => ?_)
  refine lv_aload_n hx hb dX8_init_100 rfl (lv_at hl 0 rfl) ?_
  refine r_newI X hl.1 hP hD hS (ci := 5) (fs := [.int 0, .null, .null, .null, .int 0]) rfl inc_X5 tyX5 tyX5_ok ck_X8_63 ins_X5 ini_X5 rfl (fun j hj => by
      match j, hj with
      | 0, _ => rfl
      | 1, _ => rfl
      | 2, _ => rfl
      | 3, _ => rfl
      | 4, _ => rfl
      | k + 5, h => omega) (c_X5_init l E) cd_X5_init ml_X8_65 im_X5_init rfl (by decide +kernel) ⟨rfl, rfl⟩ ⟨(Nat.le_of_ble_eq_true rfl), (Nat.le_of_ble_eq_true rfl)⟩ (Nat.le_of_ble_eq_true rfl) (Nat.le_of_ble_eq_true rfl) (Nat.le_of_ble_eq_true rfl) dX8_init_101 dX8_init_104 dX8_init_105 (fun u9 H locs hP hD hS => ?_)
  refine r_putF (w' := ([(h0, .inr (8, [.ref (u1 0), .ref (u1 1), .ref (u2 0), .ref (u3 0), .ref (u4 0), .ref (u5 0), .ref (u6 0), .ref q7, .ref (u8 0), .ref (u9 0), .long 0]))] : va_W) ++ wX6 E u1 cz1 ++ wX1 E u2 cz2 ++ wX3 E u3 sgz ++ wX3 E u4 sgz ++ wX0 E u5 sgz ++ wX2 E u6 sgz ++ [(q7, .inl (E.2.1 2, 2, .inr (.inr (.inr (.inr (fun _ => none))))))] ++ wX4 E u8 sgz ++ wX5 E u9 sgz) X hin hP hD hS 0 rfl rfl inc_X8 tyX8 tyX8_ok nmX8 9 (by decide) fl_X8_66 rfl rfl rfl rfl (Nat.le_of_ble_eq_true rfl) rfl dX8_init_108 (fun H locs hP hD hS => ?_)
  refine lv_aload_n hx hb dX8_init_111 rfl (lv_at hl 0 rfl) ?_
  refine lv_lconst (v := 0) hx hb dX8_init_112 (by decide) ?_
  refine r_put (w' := ([(h0, .inr (8, [.ref (u1 0), .ref (u1 1), .ref (u2 0), .ref (u3 0), .ref (u4 0), .ref (u5 0), .ref (u6 0), .ref q7, .ref (u8 0), .ref (u9 0), .long 0]))] : va_W) ++ wX6 E u1 cz1 ++ wX1 E u2 cz2 ++ wX3 E u3 sgz ++ wX3 E u4 sgz ++ wX0 E u5 sgz ++ wX2 E u6 sgz ++ [(q7, .inl (E.2.1 2, 2, .inr (.inr (.inr (.inr (fun _ => none))))))] ++ wX4 E u8 sgz ++ wX5 E u9 sgz) X hP hD hS 0 rfl rfl inc_X8 tyX8 tyX8_ok nmX8 10 (by decide) fl_X8_70 rfl (ty := .long) rfl rfl rfl (Nat.le_of_ble_eq_true rfl) rfl dX8_init_113 (fun H locs hP hD hS => ?_)
  refine lv_iconst (v := 0) hx hb dX8_init_116 (by decide) ?_
  refine lv_istore_n (lv' := [(1, .int 0), (0, .ref h0)]) hx hb dX8_init_117 rfl hl (by decide) rfl (fun ls hl => ?_)
  refine lv_iload_n hx hb dX8_init_118 rfl (lv_at hl 0 rfl) ?_
  refine lv_iconst (v := 2) hx hb dX8_init_119 (by decide) ?_
  refine lv_icmp_ge (tgt := 142) hx hb dX8_init_120 (by decide) (fun c => absurd c (by decide)) (fun c => ?_)
  refine lv_aload_n hx hb dX8_init_123 rfl (lv_at hl 1 rfl) ?_
  refine r_get X hP 0 rfl rfl inc_X8 7 (by decide) fl_X8_52 rfl dX8_init_124 ?_
  refine lv_iload_n hx hb dX8_init_127 rfl (lv_at hl 0 rfl) ?_
  refine r_newI X hl.1 hP hD hS (ci := 2) (fs := [.int 0, .int 0, .int 0, .null, .null]) rfl inc_X2 tyX2 tyX2_ok ck_X8_45 ins_X2 ini_X2 rfl (fun j hj => by
      match j, hj with
      | 0, _ => rfl
      | 1, _ => rfl
      | 2, _ => rfl
      | 3, _ => rfl
      | 4, _ => rfl
      | k + 5, h => omega) (c_X2_init l E) cd_X2_init ml_X8_47 im_X2_init rfl (by decide +kernel) ⟨rfl, rfl⟩ ⟨(Nat.le_of_ble_eq_true rfl), (Nat.le_of_ble_eq_true rfl)⟩ (Nat.le_of_ble_eq_true rfl) (Nat.le_of_ble_eq_true rfl) (Nat.le_of_ble_eq_true rfl) dX8_init_128 dX8_init_131 dX8_init_132 (fun u10 H locs hP hD hS => ?_)
  refine r_astq (w' := ([(h0, .inr (8, [.ref (u1 0), .ref (u1 1), .ref (u2 0), .ref (u3 0), .ref (u4 0), .ref (u5 0), .ref (u6 0), .ref q7, .ref (u8 0), .ref (u9 0), .long 0]))] : va_W) ++ wX6 E u1 cz1 ++ wX1 E u2 cz2 ++ wX3 E u3 sgz ++ wX3 E u4 sgz ++ wX0 E u5 sgz ++ wX2 E u6 sgz ++ [(q7, .inl (E.2.1 2, 2, .inr (.inr (.inr (.inr (va_up (fun _ => none) (0 : Int32).toNatClampNeg (some (u10 0))))))))] ++ wX4 E u8 sgz ++ wX5 E u9 sgz ++ wX2 E u10 sgz) X hP hD hS 33 2 59 2 rfl rfl rfl rfl (vin_d rfl) rfl dX8_init_135 (fun H locs hP hD hS => ?_)
  refine lv_iinc (v := 1) (lv' := [(1, .int 1), (0, .ref h0)]) hx hb dX8_init_136 hl (k := 0) rfl (by decide) (by decide) rfl (fun ls hl => ?_)
  refine lv_goto (tgt := 118) hx hb dX8_init_139 (by decide) ?_
  refine lv_iload_n hx hb dX8_init_118 rfl (lv_at hl 0 rfl) ?_
  refine lv_iconst (v := 2) hx hb dX8_init_119 (by decide) ?_
  refine lv_icmp_ge (tgt := 142) hx hb dX8_init_120 (by decide) (fun c => absurd c (by decide)) (fun c => ?_)
  refine lv_aload_n hx hb dX8_init_123 rfl (lv_at hl 1 rfl) ?_
  refine r_get X hP 0 rfl rfl inc_X8 7 (by decide) fl_X8_52 rfl dX8_init_124 ?_
  refine lv_iload_n hx hb dX8_init_127 rfl (lv_at hl 0 rfl) ?_
  refine r_newI X hl.1 hP hD hS (ci := 2) (fs := [.int 0, .int 0, .int 0, .null, .null]) rfl inc_X2 tyX2 tyX2_ok ck_X8_45 ins_X2 ini_X2 rfl (fun j hj => by
      match j, hj with
      | 0, _ => rfl
      | 1, _ => rfl
      | 2, _ => rfl
      | 3, _ => rfl
      | 4, _ => rfl
      | k + 5, h => omega) (c_X2_init l E) cd_X2_init ml_X8_47 im_X2_init rfl (by decide +kernel) ⟨rfl, rfl⟩ ⟨(Nat.le_of_ble_eq_true rfl), (Nat.le_of_ble_eq_true rfl)⟩ (Nat.le_of_ble_eq_true rfl) (Nat.le_of_ble_eq_true rfl) (Nat.le_of_ble_eq_true rfl) dX8_init_128 dX8_init_131 dX8_init_132 (fun u11 H locs hP hD hS => ?_)
  refine r_astq (w' := ([(h0, .inr (8, [.ref (u1 0), .ref (u1 1), .ref (u2 0), .ref (u3 0), .ref (u4 0), .ref (u5 0), .ref (u6 0), .ref q7, .ref (u8 0), .ref (u9 0), .long 0]))] : va_W) ++ wX6 E u1 cz1 ++ wX1 E u2 cz2 ++ wX3 E u3 sgz ++ wX3 E u4 sgz ++ wX0 E u5 sgz ++ wX2 E u6 sgz ++ [(q7, .inl (E.2.1 2, 2, .inr (.inr (.inr (.inr (va_up (va_up (fun _ => none) (0 : Int32).toNatClampNeg (some (u10 0))) (1 : Int32).toNatClampNeg (some (u11 0))))))))] ++ wX4 E u8 sgz ++ wX5 E u9 sgz ++ wX2 E u10 sgz ++ wX2 E u11 sgz) X hP hD hS 33 2 62 2 rfl rfl rfl rfl (vin_d rfl) rfl dX8_init_135 (fun H locs hP hD hS => ?_)
  refine lv_iinc (v := 2) (lv' := [(1, .int 2), (0, .ref h0)]) hx hb dX8_init_136 hl (k := 0) rfl (by decide) (by decide) rfl (fun ls hl => ?_)
  refine lv_goto (tgt := 118) hx hb dX8_init_139 (by decide) ?_
  refine lv_iload_n hx hb dX8_init_118 rfl (lv_at hl 0 rfl) ?_
  refine lv_iconst (v := 2) hx hb dX8_init_119 (by decide) ?_
  refine lv_icmp_ge (tgt := 142) hx hb dX8_init_120 (by decide) (fun c => ?_) (fun c => absurd (by decide) c)
  have hpm : @List.Perm (Nat × va_E) (([(h0, .inr (8, [.ref (u1 0), .ref (u1 1), .ref (u2 0), .ref (u3 0), .ref (u4 0), .ref (u5 0), .ref (u6 0), .ref q7, .ref (u8 0), .ref (u9 0), .long 0]))] : va_W) ++ wX6 E u1 cz1 ++ wX1 E u2 cz2 ++ wX3 E u3 sgz ++ wX3 E u4 sgz ++ wX0 E u5 sgz ++ wX2 E u6 sgz ++ [(q7, .inl (E.2.1 2, 2, .inr (.inr (.inr (.inr (va_up (va_up (fun _ => none) (0 : Int32).toNatClampNeg (some (u10 0))) (1 : Int32).toNatClampNeg (some (u11 0))))))))] ++ wX4 E u8 sgz ++ wX5 E u9 sgz ++ wX2 E u10 sgz ++ wX2 E u11 sgz) (([(h0, .inr (8, [.ref (u1 0), .ref (u1 1), .ref (u2 0), .ref (u3 0), .ref (u4 0), .ref (u5 0), .ref (u6 0), .ref q7, .ref (u8 0), .ref (u9 0), .long 0]))] : va_W) ++ wX6 E u1 cz1 ++ wX1 E u2 cz2 ++ wX3 E u3 sgz ++ wX3 E u4 sgz ++ wX0 E u5 sgz ++ wX2 E u6 sgz ++ [(q7, .inl (E.2.1 2, 2, .inr (.inr (.inr (.inr (va_up (va_up (fun _ => none) (0 : Int32).toNatClampNeg (some (u10 0))) (1 : Int32).toNatClampNeg (some (u11 0))))))))] ++ wX2 E u10 sgz ++ wX2 E u11 sgz ++ wX4 E u8 sgz ++ wX5 E u9 sgz) := by
    simp only [List.append_assoc]
    refine List.Perm.append_left _ ?_
    refine List.Perm.append_left _ ?_
    refine List.Perm.append_left _ ?_
    refine List.Perm.append_left _ ?_
    refine List.Perm.append_left _ ?_
    refine List.Perm.append_left _ ?_
    refine List.Perm.append_left _ ?_
    refine List.Perm.append_left _ ?_
    exact sw_perm _ _ _ _
  have hP : va_P E.1 vwCl (([(h0, .inr (8, [.ref (u1 0), .ref (u1 1), .ref (u2 0), .ref (u3 0), .ref (u4 0), .ref (u5 0), .ref (u6 0), .ref q7, .ref (u8 0), .ref (u9 0), .long 0]))] : va_W) ++ wX6 E u1 cz1 ++ wX1 E u2 cz2 ++ wX3 E u3 sgz ++ wX3 E u4 sgz ++ wX0 E u5 sgz ++ wX2 E u6 sgz ++ [(q7, .inl (E.2.1 2, 2, .inr (.inr (.inr (.inr (va_up (va_up (fun _ => none) (0 : Int32).toNatClampNeg (some (u10 0))) (1 : Int32).toNatClampNeg (some (u11 0))))))))] ++ wX2 E u10 sgz ++ wX2 E u11 sgz ++ wX4 E u8 sgz ++ wX5 E u9 sgz) H := vP_perm hpm hP
  have hD : va_D A (([(h0, .inr (8, [.ref (u1 0), .ref (u1 1), .ref (u2 0), .ref (u3 0), .ref (u4 0), .ref (u5 0), .ref (u6 0), .ref q7, .ref (u8 0), .ref (u9 0), .long 0]))] : va_W) ++ wX6 E u1 cz1 ++ wX1 E u2 cz2 ++ wX3 E u3 sgz ++ wX3 E u4 sgz ++ wX0 E u5 sgz ++ wX2 E u6 sgz ++ [(q7, .inl (E.2.1 2, 2, .inr (.inr (.inr (.inr (va_up (va_up (fun _ => none) (0 : Int32).toNatClampNeg (some (u10 0))) (1 : Int32).toNatClampNeg (some (u11 0))))))))] ++ wX2 E u10 sgz ++ wX2 E u11 sgz ++ wX4 E u8 sgz ++ wX5 E u9 sgz) := vD_perm hpm hD
  obtain ⟨u, h_u⟩ : ∃ u : Nat → Nat, ∀ k, u k = (fun k => if k = 0 then h0 else if k < 9 then u1 (k - 1) else if k < 14 then u2 (k - 9) else if k < 20 then u3 (k - 14) else if k < 26 then u4 (k - 20) else if k < 30 then u5 (k - 26) else if k < 33 then u6 (k - 30) else if k < 34 then q7 else if k < 37 then u10 (k - 34) else if k < 40 then u11 (k - 37) else if k < 43 then u8 (k - 40) else u9 (k - 43)) k := ⟨_, fun _ => rfl⟩
  obtain ⟨σ, h_s⟩ : ∃ σ : Sg, ∀ k, σ k = (sg_sp (sg_sp sgz 1 8 cz1) 9 5 cz2) k := ⟨_, fun _ => rfl⟩
  obtain ⟨hw, e0⟩ := hwX8 E h0 q7 u1 u2 u3 u4 u5 u6 u10 u11 u8 u9 cz1 cz2 u σ h_u h_s
  rw [hw] at hP hD
  have hs : σ = (sg_sp (sg_sp sgz 1 8 cz1) 9 5 cz2) := funext h_s
  have hu : u 0 = h0 := e0.symm
  subst hs
  have hl : lv_has ls 2 [(0, .ref (u 0))] := by
    rw [hu]
    exact lv_sub hl [1] rfl
  refine lv_aload_n hx hb dX8_init_142 rfl (lv_at hl 0 rfl) ?_
  obtain ⟨z1, hz1, hf⟩ := obd hf
  refine cV_allV X (As := []) (rest := []) (c_X8_beginAnew l E u (sg_sp (sg_sp sgz 1 8 cz1) 9 5 cz2) 0 hz1) pv_X8_beginAnew ml_X8_74 ⟨rfl, rfl⟩ ⟨(Nat.le_of_ble_eq_true rfl), (Nat.le_of_ble_eq_true rfl)⟩ hP hD hS (wX8_g0_0 _ _ _ _) rfl (wX8_adr _ _ _ _ _ _) rfl hl.1 rfl (Nat.le_of_ble_eq_true rfl) dX8_init_143 ⟨Nat.le_refl _, Nat.le_refl _⟩ (fun H locs hP hD hS => ?_)
  have ho := Option.some.inj hf
  have hw := congrArg (fun o : Sg => (wX8 E u o 0)) ho
  exact r_nret (wf := (fun u => wX8 E u out 0)) X hr hu hP hD hS hw dX8_init_146
