theorem vkS_cg {N : Nat} {len : List Nat} {byt : List (List Int32)} {k1 k2 v1 v2 : Nat → Nat} {A : Nat → Prop} {U : State} {H : Heap} (hk : ∀ i, i < N → k1 i = k2 i) (hv : ∀ i, i < N → v1 i = v2 i) (h : vk_S N len byt k1 v1 A U H) : vk_S N len byt k2 v2 A U H := by
  refine ⟨fun i hi => ?_, fun i j hi hj e => h.2 i j hi hj (by rw [hk i hi, hk j hj]; exact e)⟩
  rw [← hk i hi, ← hv i hi]
  exact h.1 i hi
theorem arr_known {s : State} {args : Array Value} {ty : FieldType} (h : (Cond.arrayClass ty).before args s = true) : ∃ c : ClassId, ArrOfT s c ty ∧ s.vm.findClass ("[" ++ ty.toString) = some c := by
  obtain ⟨c, k, comp, h1, h2, h3⟩ := Cond.arrayClass_spec h
  exact ⟨c, fun N z => ⟨(fun k h => by cases h), k, h2, comp, h3⟩, h1⟩
theorem arr_over {s : State} {C : String} (h : va_AO C s) : ∃ c : ClassId, ArrOfT s c (.object C) ∧ va_RA s c (.object C) := by
  obtain ⟨comp, c, k, h1, h2, h3, h4, h5⟩ := Cond.arrayOver_spec h
  exact ⟨c, fun N z => ⟨(fun k h => by cases h), k, h3, comp, h4⟩, k, comp, h3, h4, h1, h5⟩
set_option maxHeartbeats 4000000 in
set_option maxRecDepth 100000 in
theorem start_amb {s : State} {b : Nat} (hts : ∀ w ∈ lw_tbl, w.before #[Value.ref b] s = true) (hgv : (Jvm.Cond.and given_1 narrow_1).before #[Value.ref b] s = true) (D : va_G) (ct : Nat → ClassId) : ∃ ad : Nat → Nat, Amb (D, ct, ad) (fun q : Nat => s.heap.size ≤ q) s s.heap := by
  have hs := flat_of_before _ hgv
  have hA : ∀ q : Nat, q < s.heap.size → ¬ (fun q : Nat => s.heap.size ≤ q) q := fun q h => Nat.not_le.mpr h
  have harCHOICE : (Cond.arrayOf (Term.static "FoldedMap$Plans" "CHOICE" "[I") .int).before #[Value.ref b] s = true := hs _ (by decide +kernel)
  have hleCHOICE : (Cond.eq (.length (Term.static "FoldedMap$Plans" "CHOICE" "[I")) (.int 12)).before #[Value.ref b] s = true := hs _ (by decide +kernel)
  have helCHOICE : ∀ j : Nat, j < 12 → (Cond.eq (.elem (Term.static "FoldedMap$Plans" "CHOICE" "[I") (.int (Int32.ofNat j))) (.int (am_choice j))).before #[Value.ref b] s = true := by
    intro j hj
    match j, hj with
    | 0, _ => exact hs (Cond.eq (.elem (Term.static "FoldedMap$Plans" "CHOICE" "[I") (.int 0)) (.int 0)) (by decide +kernel)
    | 1, _ => exact hs (Cond.eq (.elem (Term.static "FoldedMap$Plans" "CHOICE" "[I") (.int 1)) (.int 1)) (by decide +kernel)
    | 2, _ => exact hs (Cond.eq (.elem (Term.static "FoldedMap$Plans" "CHOICE" "[I") (.int 2)) (.int 4)) (by decide +kernel)
    | 3, _ => exact hs (Cond.eq (.elem (Term.static "FoldedMap$Plans" "CHOICE" "[I") (.int 3)) (.int 5)) (by decide +kernel)
    | 4, _ => exact hs (Cond.eq (.elem (Term.static "FoldedMap$Plans" "CHOICE" "[I") (.int 4)) (.int 8)) (by decide +kernel)
    | 5, _ => exact hs (Cond.eq (.elem (Term.static "FoldedMap$Plans" "CHOICE" "[I") (.int 5)) (.int 9)) (by decide +kernel)
    | 6, _ => exact hs (Cond.eq (.elem (Term.static "FoldedMap$Plans" "CHOICE" "[I") (.int 6)) (.int 12)) (by decide +kernel)
    | 7, _ => exact hs (Cond.eq (.elem (Term.static "FoldedMap$Plans" "CHOICE" "[I") (.int 7)) (.int 13)) (by decide +kernel)
    | 8, _ => exact hs (Cond.eq (.elem (Term.static "FoldedMap$Plans" "CHOICE" "[I") (.int 8)) (.int 16)) (by decide +kernel)
    | 9, _ => exact hs (Cond.eq (.elem (Term.static "FoldedMap$Plans" "CHOICE" "[I") (.int 9)) (.int 17)) (by decide +kernel)
    | 10, _ => exact hs (Cond.eq (.elem (Term.static "FoldedMap$Plans" "CHOICE" "[I") (.int 10)) (.int 20)) (by decide +kernel)
    | 11, _ => exact hs (Cond.eq (.elem (Term.static "FoldedMap$Plans" "CHOICE" "[I") (.int 11)) (.int 21)) (by decide +kernel)
    | j + 12, h => omega
  obtain ⟨tCHOICE, htCHOICE, hTCHOICE⟩ := va_Tof (f := fun j => .int (am_choice j)) (A := (fun q : Nat => s.heap.size ≤ q)) (N := 12) (by decide) harCHOICE (va_eqt hleCHOICE) (fun j hj => va_eqt (helCHOICE j hj)) hA
  have hZCHOICE := va_Zref (A := (fun q : Nat => s.heap.size ≤ q)) (hts _ ls_X5_CHOICE) (hts _ (lw_g_in ini_X5)) htCHOICE hA
  have harPLANS_OF : (Cond.arrayOf (Term.static "FoldedMap$Plans" "PLANS_OF" "[I") .int).before #[Value.ref b] s = true := hs _ (by decide +kernel)
  have hlePLANS_OF : (Cond.eq (.length (Term.static "FoldedMap$Plans" "PLANS_OF" "[I")) (.int 3)).before #[Value.ref b] s = true := hs _ (by decide +kernel)
  have helPLANS_OF : ∀ j : Nat, j < 3 → (Cond.eq (.elem (Term.static "FoldedMap$Plans" "PLANS_OF" "[I") (.int (Int32.ofNat j))) (.int (am_plans j))).before #[Value.ref b] s = true := by
    intro j hj
    match j, hj with
    | 0, _ => exact hs (Cond.eq (.elem (Term.static "FoldedMap$Plans" "PLANS_OF" "[I") (.int 0)) (.int 1)) (by decide +kernel)
    | 1, _ => exact hs (Cond.eq (.elem (Term.static "FoldedMap$Plans" "PLANS_OF" "[I") (.int 1)) (.int 12)) (by decide +kernel)
    | 2, _ => exact hs (Cond.eq (.elem (Term.static "FoldedMap$Plans" "PLANS_OF" "[I") (.int 2)) (.int 144)) (by decide +kernel)
    | j + 3, h => omega
  obtain ⟨tPLANS_OF, htPLANS_OF, hTPLANS_OF⟩ := va_Tof (f := fun j => .int (am_plans j)) (A := (fun q : Nat => s.heap.size ≤ q)) (N := 3) (by decide) harPLANS_OF (va_eqt hlePLANS_OF) (fun j hj => va_eqt (helPLANS_OF j hj)) hA
  have hZPLANS_OF := va_Zref (A := (fun q : Nat => s.heap.size ≤ q)) (hts _ ls_X5_PLANS_OF) (hts _ (lw_g_in ini_X5)) htPLANS_OF hA
  have hcs := va_Zof (A := (fun q : Nat => s.heap.size ≤ q)) (hts _ ls_J0_COMPACT_STRINGS) (hts _ (lw_g_in ini_J0)) (va_eqi (z := 1) (hs (Cond.eq (.static "java/lang/String" "COMPACT_STRINGS" "Z") (.int 1)) (by decide +kernel))) hA
  have hfm := va_Zqof (A := (fun q : Nat => s.heap.size ≤ q)) (hts _ ls_J3_SIOOBE_FORMATTER) (hts _ (lw_g_in ini_J3)) (hs (Cond.isRef (.static "jdk/internal/util/Preconditions" "SIOOBE_FORMATTER" "Ljava/util/function/BiFunction;")) (by decide +kernel)) hA
  have ha2 : va_AO RX2 s := va_AO.of (hts _ ao_X2)
  have ha3 : va_AO RX3 s := va_AO.of (hts _ ao_X3)
  have tmE : ∀ i : Nat, i < 4 → (fun i => Term.string RX7 (am_tx i).1) i = Term.string RX7 (am_tx i).1 := fun _ _ => rfl
  have hex : ∀ i : Nat, i < 4 → (Cond.exactly (Term.string RX7 (am_tx i).1) "java/lang/String").before #[Value.ref b] s = true := by
    intro i hi
    match i, hi with
    | 0, _ => exact hs (Cond.exactly (Term.string "FoldedMap$Text" 48) "java/lang/String") (by decide +kernel)
    | 1, _ => exact hs (Cond.exactly (Term.string "FoldedMap$Text" 54) "java/lang/String") (by decide +kernel)
    | 2, _ => exact hs (Cond.exactly (Term.string "FoldedMap$Text" 56) "java/lang/String") (by decide +kernel)
    | 3, _ => exact hs (Cond.exactly (Term.string "FoldedMap$Text" 58) "java/lang/String") (by decide +kernel)
    | i + 4, h => omega
  have hco : ∀ i : Nat, i < 4 → (Cond.eq (.field (Term.string RX7 (am_tx i).1) "java/lang/String" "coder" "B") (.int 0)).before #[Value.ref b] s = true := by
    intro i hi
    match i, hi with
    | 0, _ => exact hs (Cond.eq (.field (Term.string "FoldedMap$Text" 48) "java/lang/String" "coder" "B") (.int 0)) (by decide +kernel)
    | 1, _ => exact hs (Cond.eq (.field (Term.string "FoldedMap$Text" 54) "java/lang/String" "coder" "B") (.int 0)) (by decide +kernel)
    | 2, _ => exact hs (Cond.eq (.field (Term.string "FoldedMap$Text" 56) "java/lang/String" "coder" "B") (.int 0)) (by decide +kernel)
    | 3, _ => exact hs (Cond.eq (.field (Term.string "FoldedMap$Text" 58) "java/lang/String" "coder" "B") (.int 0)) (by decide +kernel)
    | i + 4, h => omega
  have har : ∀ i : Nat, i < 4 → (Cond.arrayOf (.field (Term.string RX7 (am_tx i).1) "java/lang/String" "value" "[B") .byte).before #[Value.ref b] s = true := by
    intro i hi
    match i, hi with
    | 0, _ => exact hs (Cond.arrayOf (.field (Term.string "FoldedMap$Text" 48) "java/lang/String" "value" "[B") .byte) (by decide +kernel)
    | 1, _ => exact hs (Cond.arrayOf (.field (Term.string "FoldedMap$Text" 54) "java/lang/String" "value" "[B") .byte) (by decide +kernel)
    | 2, _ => exact hs (Cond.arrayOf (.field (Term.string "FoldedMap$Text" 56) "java/lang/String" "value" "[B") .byte) (by decide +kernel)
    | 3, _ => exact hs (Cond.arrayOf (.field (Term.string "FoldedMap$Text" 58) "java/lang/String" "value" "[B") .byte) (by decide +kernel)
    | i + 4, h => omega
  have hle : ∀ i : Nat, i < 4 → (Cond.eq (.length (.field (Term.string RX7 (am_tx i).1) "java/lang/String" "value" "[B")) (.int (Int32.ofNat (am_len.getD i 0)))).before #[Value.ref b] s = true := by
    intro i hi
    match i, hi with
    | 0, _ => exact hs (Cond.eq (.length (.field (Term.string "FoldedMap$Text" 48) "java/lang/String" "value" "[B")) (.int 3)) (by decide +kernel)
    | 1, _ => exact hs (Cond.eq (.length (.field (Term.string "FoldedMap$Text" 54) "java/lang/String" "value" "[B")) (.int 5)) (by decide +kernel)
    | 2, _ => exact hs (Cond.eq (.length (.field (Term.string "FoldedMap$Text" 56) "java/lang/String" "value" "[B")) (.int 7)) (by decide +kernel)
    | 3, _ => exact hs (Cond.eq (.length (.field (Term.string "FoldedMap$Text" 58) "java/lang/String" "value" "[B")) (.int 4)) (by decide +kernel)
    | i + 4, h => omega
  have hel : ∀ i : Nat, i < 4 → ∀ j : Nat, j < am_len.getD i 0 → (Cond.eq (.elem (.field (Term.string RX7 (am_tx i).1) "java/lang/String" "value" "[B") (.int (Int32.ofNat j))) (.int ((am_byt.getD i []).getD j 0))).before #[Value.ref b] s = true := by
    intro i hi j hj
    match i, hi, j, hj with
    | 0, _, 0, _ => exact hs (Cond.eq (.elem (.field (Term.string "FoldedMap$Text" 48) "java/lang/String" "value" "[B") (.int 0)) (.int 109)) (by decide +kernel)
    | 0, _, 1, _ => exact hs (Cond.eq (.elem (.field (Term.string "FoldedMap$Text" 48) "java/lang/String" "value" "[B") (.int 1)) (.int 97)) (by decide +kernel)
    | 0, _, 2, _ => exact hs (Cond.eq (.elem (.field (Term.string "FoldedMap$Text" 48) "java/lang/String" "value" "[B") (.int 2)) (.int 112)) (by decide +kernel)
    | 0, _, j + 3, h => exact absurd h (by simp [am_len])
    | 1, _, 0, _ => exact hs (Cond.eq (.elem (.field (Term.string "FoldedMap$Text" 54) "java/lang/String" "value" "[B") (.int 0)) (.int 119)) (by decide +kernel)
    | 1, _, 1, _ => exact hs (Cond.eq (.elem (.field (Term.string "FoldedMap$Text" 54) "java/lang/String" "value" "[B") (.int 1)) (.int 111)) (by decide +kernel)
    | 1, _, 2, _ => exact hs (Cond.eq (.elem (.field (Term.string "FoldedMap$Text" 54) "java/lang/String" "value" "[B") (.int 2)) (.int 114)) (by decide +kernel)
    | 1, _, 3, _ => exact hs (Cond.eq (.elem (.field (Term.string "FoldedMap$Text" 54) "java/lang/String" "value" "[B") (.int 3)) (.int 116)) (by decide +kernel)
    | 1, _, 4, _ => exact hs (Cond.eq (.elem (.field (Term.string "FoldedMap$Text" 54) "java/lang/String" "value" "[B") (.int 4)) (.int 104)) (by decide +kernel)
    | 1, _, j + 5, h => exact absurd h (by simp [am_len])
    | 2, _, 0, _ => exact hs (Cond.eq (.elem (.field (Term.string "FoldedMap$Text" 56) "java/lang/String" "value" "[B") (.int 0)) (.int 113)) (by decide +kernel)
    | 2, _, 1, _ => exact hs (Cond.eq (.elem (.field (Term.string "FoldedMap$Text" 56) "java/lang/String" "value" "[B") (.int 1)) (.int 117)) (by decide +kernel)
    | 2, _, 2, _ => exact hs (Cond.eq (.elem (.field (Term.string "FoldedMap$Text" 56) "java/lang/String" "value" "[B") (.int 2)) (.int 97)) (by decide +kernel)
    | 2, _, 3, _ => exact hs (Cond.eq (.elem (.field (Term.string "FoldedMap$Text" 56) "java/lang/String" "value" "[B") (.int 3)) (.int 114)) (by decide +kernel)
    | 2, _, 4, _ => exact hs (Cond.eq (.elem (.field (Term.string "FoldedMap$Text" 56) "java/lang/String" "value" "[B") (.int 4)) (.int 114)) (by decide +kernel)
    | 2, _, 5, _ => exact hs (Cond.eq (.elem (.field (Term.string "FoldedMap$Text" 56) "java/lang/String" "value" "[B") (.int 5)) (.int 101)) (by decide +kernel)
    | 2, _, 6, _ => exact hs (Cond.eq (.elem (.field (Term.string "FoldedMap$Text" 56) "java/lang/String" "value" "[B") (.int 6)) (.int 108)) (by decide +kernel)
    | 2, _, j + 7, h => exact absurd h (by simp [am_len])
    | 3, _, 0, _ => exact hs (Cond.eq (.elem (.field (Term.string "FoldedMap$Text" 58) "java/lang/String" "value" "[B") (.int 0)) (.int 116)) (by decide +kernel)
    | 3, _, 1, _ => exact hs (Cond.eq (.elem (.field (Term.string "FoldedMap$Text" 58) "java/lang/String" "value" "[B") (.int 1)) (.int 101)) (by decide +kernel)
    | 3, _, 2, _ => exact hs (Cond.eq (.elem (.field (Term.string "FoldedMap$Text" 58) "java/lang/String" "value" "[B") (.int 2)) (.int 97)) (by decide +kernel)
    | 3, _, 3, _ => exact hs (Cond.eq (.elem (.field (Term.string "FoldedMap$Text" 58) "java/lang/String" "value" "[B") (.int 3)) (.int 114)) (by decide +kernel)
    | 3, _, j + 4, h => exact absurd h (by simp [am_len])
    | i + 4, h, _, _ => omega
  have hne : ∀ i j : Nat, i < 4 → j < 4 → i ≠ j → (Cond.not (Cond.eq (Term.string RX7 (am_tx i).1) (Term.string RX7 (am_tx j).1))).before #[Value.ref b] s = true ∨ (Cond.not (Cond.eq (Term.string RX7 (am_tx j).1) (Term.string RX7 (am_tx i).1))).before #[Value.ref b] s = true := by
    intro i j hi hj hij
    match i, hi, j, hj with
    | 0, _, 0, _ => exact absurd rfl hij
    | 0, _, 1, _ => exact Or.inl (hs (Cond.not (Cond.eq (Term.string "FoldedMap$Text" 48) (Term.string "FoldedMap$Text" 54))) (by decide +kernel))
    | 0, _, 2, _ => exact Or.inl (hs (Cond.not (Cond.eq (Term.string "FoldedMap$Text" 48) (Term.string "FoldedMap$Text" 56))) (by decide +kernel))
    | 0, _, 3, _ => exact Or.inl (hs (Cond.not (Cond.eq (Term.string "FoldedMap$Text" 48) (Term.string "FoldedMap$Text" 58))) (by decide +kernel))
    | 1, _, 0, _ => exact Or.inr (hs (Cond.not (Cond.eq (Term.string "FoldedMap$Text" 48) (Term.string "FoldedMap$Text" 54))) (by decide +kernel))
    | 1, _, 1, _ => exact absurd rfl hij
    | 1, _, 2, _ => exact Or.inl (hs (Cond.not (Cond.eq (Term.string "FoldedMap$Text" 54) (Term.string "FoldedMap$Text" 56))) (by decide +kernel))
    | 1, _, 3, _ => exact Or.inl (hs (Cond.not (Cond.eq (Term.string "FoldedMap$Text" 54) (Term.string "FoldedMap$Text" 58))) (by decide +kernel))
    | 2, _, 0, _ => exact Or.inr (hs (Cond.not (Cond.eq (Term.string "FoldedMap$Text" 48) (Term.string "FoldedMap$Text" 56))) (by decide +kernel))
    | 2, _, 1, _ => exact Or.inr (hs (Cond.not (Cond.eq (Term.string "FoldedMap$Text" 54) (Term.string "FoldedMap$Text" 56))) (by decide +kernel))
    | 2, _, 2, _ => exact absurd rfl hij
    | 2, _, 3, _ => exact Or.inl (hs (Cond.not (Cond.eq (Term.string "FoldedMap$Text" 56) (Term.string "FoldedMap$Text" 58))) (by decide +kernel))
    | 3, _, 0, _ => exact Or.inr (hs (Cond.not (Cond.eq (Term.string "FoldedMap$Text" 48) (Term.string "FoldedMap$Text" 58))) (by decide +kernel))
    | 3, _, 1, _ => exact Or.inr (hs (Cond.not (Cond.eq (Term.string "FoldedMap$Text" 54) (Term.string "FoldedMap$Text" 58))) (by decide +kernel))
    | 3, _, 2, _ => exact Or.inr (hs (Cond.not (Cond.eq (Term.string "FoldedMap$Text" 56) (Term.string "FoldedMap$Text" 58))) (by decide +kernel))
    | 3, _, 3, _ => exact absurd rfl hij
    | i + 4, h, _, _ => omega
    | _, _, j + 4, h => omega
  obtain ⟨adK, adV, hS4, hev⟩ := vk_Sof (N := 4) (tm := fun i => Term.string RX7 (am_tx i).1) (len := am_len) (byt := am_byt) (A := (fun q : Nat => s.heap.size ≤ q)) (by decide) hex hco har hle hel hne hA
  obtain ⟨ad, h_a⟩ : ∃ ad : Nat → Nat, ∀ k, ad k = (if k = 0 then tCHOICE else if k = 1 then tPLANS_OF else if k < 20 then adK (k - 10) else adV (k - 20)) := ⟨_, fun _ => rfl⟩
  have e0 : ad 0 = tCHOICE := by rw [h_a]; rfl
  have e1 : ad 1 = tPLANS_OF := by rw [h_a]; rfl
  have ek : ∀ i, i < 4 → adK i = sg_off ad 10 i := by
    intro i hi
    show adK i = ad (10 + i)
    rw [h_a, if_neg (show ¬ (10 + i = 0) by omega), if_neg (show ¬ (10 + i = 1) by omega), if_pos (show 10 + i < 20 by omega)]
    congr 1
    omega
  have ev : ∀ i, i < 4 → adV i = sg_off ad 20 i := by
    intro i hi
    show adV i = ad (20 + i)
    rw [h_a, if_neg (show ¬ (20 + i = 0) by omega), if_neg (show ¬ (20 + i = 1) by omega), if_neg (show ¬ (20 + i < 20) by omega)]
    congr 1
    omega
  have hsr : ∀ i : Nat, i < 4 → (Cond.stringRef RX7 (am_tx i).1 (am_tx i).2).before #[Value.ref b] s = true := by
    intro i hi
    match i, hi with
    | 0, _ => exact hts _ sr_X7_48
    | 1, _ => exact hts _ sr_X7_54
    | 2, _ => exact hts _ sr_X7_56
    | 3, _ => exact hts _ sr_X7_58
    | i + 4, h => omega
  refine ⟨ad, ?_, ?_, ?_, ?_, hcs, hfm, ha2, ha3, vkS_cg ek ev hS4, fun i hi => ?_⟩
  · show va_Z _ _ _ (.ref (ad 0)) _ _ _
    rw [e0]; exact hZCHOICE
  · show va_T _ (ad 0) _ _ _ _ _
    rw [e0]; exact hTCHOICE
  · show va_Z _ _ _ (.ref (ad 1)) _ _ _
    rw [e1]; exact hZPLANS_OF
  · show va_T _ (ad 1) _ _ _ _ _
    rw [e1]; exact hTPLANS_OF
  · have h1 := ek i hi
    have h2 := hev i hi
    rw [h1] at h2
    exact vk_R.of (hsr i hi) h2
set_option maxHeartbeats 4000000 in
set_option maxRecDepth 100000 in
theorem start_E {s : State} {b : Nat} (hts : ∀ w ∈ lw_tbl, w.before #[Value.ref b] s = true) (hgv : (Jvm.Cond.and given_1 narrow_1).before #[Value.ref b] s = true) : ∃ E : Ev, KK E s ∧ Amb E (fun q : Nat => s.heap.size ≤ q) s s.heap := by
  have htg : ∀ w ∈ lw_g, w.before #[Value.ref b] s = true := fun w h => hts w (lw_g_in h)
  obtain ⟨c0, iS0, hKn0⟩ := u_known (C := RX0) (T := TX0) (N := 4) (n := 4) htg inc_X0 (htg _ ins_X0)
  obtain ⟨c1, iS1, hKn1⟩ := u_known (C := RX1) (T := TX1) (N := 5) (n := 5) htg inc_X1 (htg _ ins_X1)
  obtain ⟨c2, iS2, hKn2⟩ := u_known (C := RX2) (T := TX2) (N := 5) (n := 5) htg inc_X2 (htg _ ins_X2)
  obtain ⟨c3, iS3, hKn3⟩ := u_known (C := RX3) (T := TX3) (N := 8) (n := 8) htg inc_X3 (htg _ ins_X3)
  obtain ⟨c4, iS4, hKn4⟩ := u_known (C := RX4) (T := TX4) (N := 3) (n := 3) htg inc_X4 (htg _ ins_X4)
  obtain ⟨c5, iS5, hKn5⟩ := u_known (C := RX5) (T := TX5) (N := 5) (n := 5) htg inc_X5 (htg _ ins_X5)
  obtain ⟨c6, iS6, hKn6⟩ := u_known (C := RX6) (T := TX6) (N := 8) (n := 8) htg inc_X6 (htg _ ins_X6)
  obtain ⟨c7, iS7, hKn7⟩ := u_known (C := RX7) (T := TX7) (N := 6) (n := 6) htg inc_X7 (htg _ ins_X7)
  obtain ⟨c8, iS8, hKn8⟩ := u_known (C := RX8) (T := TX8) (N := 11) (n := 11) htg inc_X8 (htg _ ins_X8)
  obtain ⟨c9, iS9, hKn9⟩ := u_known (C := RX9) (T := TX9) (N := 22) (n := 22) htg inc_X9 (htg _ ins_X9)
  obtain ⟨dC, dI, hKc⟩ : ∃ (dC : Nat → ClassId) (dI : Nat → Nat → Nat), ∀ (k : Nat) (q : vw_C), vwCl[k]? = some q → u_Kn s q.1 q.2.1 q.2.2 (dC k) (dI k) := by
    refine ⟨fun k => if k = 0 then c0 else if k = 1 then c1 else if k = 2 then c2 else if k = 3 then c3 else if k = 4 then c4 else if k = 5 then c5 else if k = 6 then c6 else if k = 7 then c7 else if k = 8 then c8 else c9, fun k => if k = 0 then iS0 else if k = 1 then iS1 else if k = 2 then iS2 else if k = 3 then iS3 else if k = 4 then iS4 else if k = 5 then iS5 else if k = 6 then iS6 else if k = 7 then iS7 else if k = 8 then iS8 else iS9, ?_⟩
    intro k q hq
    match k, hq with
    | 0, hq => cases hq; exact hKn0
    | 1, hq => cases hq; exact hKn1
    | 2, hq => cases hq; exact hKn2
    | 3, hq => cases hq; exact hKn3
    | 4, hq => cases hq; exact hKn4
    | 5, hq => cases hq; exact hKn5
    | 6, hq => cases hq; exact hKn6
    | 7, hq => cases hq; exact hKn7
    | 8, hq => cases hq; exact hKn8
    | 9, hq => cases hq; exact hKn9
    | k + 10, hq => simp [vwCl] at hq
  obtain ⟨t0, hA0, hF0⟩ := arr_known (htg _ arr_int)
  obtain ⟨t1, hA1, hF1⟩ := arr_known (htg _ arr_boolean)
  obtain ⟨t2, hA2, hF2⟩ := arr_over (va_AO.of (hts _ ao_X2))
  obtain ⟨t3, hA3, hF3⟩ := arr_over (va_AO.of (hts _ ao_X3))
  obtain ⟨ad, hAm⟩ := start_amb hts hgv (dC, dI) (fun k => if k = 0 then t0 else if k = 1 then t1 else if k = 2 then t2 else t3)
  refine ⟨_, ⟨hKc, fun k q hk => ?_⟩, hAm⟩
  match k, hk with
  | 0, hk => cases hk; exact ⟨hA0, hF0⟩
  | 1, hk => cases hk; exact ⟨hA1, hF1⟩
  | 2, hk => cases hk; exact ⟨hA2, hF2⟩
  | 3, hk => cases hk; exact ⟨hA3, hF3⟩
  | k + 4, hk => simp [tyl] at hk
set_option maxHeartbeats 4000000 in
set_option maxRecDepth 100000 in
theorem start_walk {p : Program} {e : Env} {s : State} {m : MethodId} {below : List Frame} {meth : Method} {c : Code} (l : Launch) {b L : Nat} {xs : Nat → Int32} {Rel : Sg → Int64 → Sg → Int64 → Prop} (hIn : LawInit Rel) (hSt : LawSteps Rel) (hL : L ≤ 2560) (C0 : lw_At p s m meth c b L xs) : W p l e room_1 s m #[Value.ref b] below meth c s.heap [] 0 0 (lw_Z below #[Value.ref b] s) (entryFrame m ([Value.ref b] : List Value).toArray 4) := by
  obtain ⟨hx, hb, hr, hml, hown, hts, hX, hbl, hlocks, hgv⟩ := id C0
  obtain ⟨E, hK, hAm⟩ := start_E hts hgv
  obtain ⟨σ, μ, hf8, hf9, hR⟩ := hIn
  have X : Cx p s m #[Value.ref b] meth c code 4 RL E (fun q : Nat => s.heap.size ≤ q) := ⟨⟨hx, hb, hml, hown, fun w h => hts w (lw_g_in h)⟩, hK, hAm, fun _ h => h, hlocks⟩
  have hS : va_S (fun q : Nat => s.heap.size ≤ q) s.heap s.heap [] := va_S.rf
  have hP : va_P E.1 vwCl [] s.heap := fun k q h => by simp at h
  have hD : va_D (fun q : Nat => s.heap.size ≤ q) [] := ⟨fun i j p q h => by simp at h, fun k q h => by simp at h⟩
  have hl := lv_entry ([.ref b]) (n := 4) (Nat.le_of_ble_eq_true rfl)
  rw [lg_entry_eq]
  generalize (lg_sl ([.ref b]) ++ List.replicate (4 - (lg_sl ([.ref b])).length) Slot.unset).toArray = ls at hl ⊢
  have hl : lv_has ls 4 [(0, .ref b)] := hl
  refine r_newI X hl.1 hP hD hS (ci := 8) (fs := [.null, .null, .null, .null, .null, .null, .null, .null, .null, .null, .long 0]) rfl inc_X8 tyX8 tyX8_ok ck_L_7 ins_X8 ini_X8 rfl (fun j hj => by
      match j, hj with
      | 0, _ => rfl
      | 1, _ => rfl
      | 2, _ => rfl
      | 3, _ => rfl
      | 4, _ => rfl
      | 5, _ => rfl
      | 6, _ => rfl
      | 7, _ => rfl
      | 8, _ => rfl
      | 9, _ => rfl
      | 10, _ => rfl
      | k + 11, h => omega) (c_X8_init l E hf8) cd_X8_init ml_L_9 im_X8_init rfl (by decide +kernel) ⟨rfl, rfl⟩ ⟨(Nat.le_of_ble_eq_true rfl), (Nat.le_of_ble_eq_true rfl)⟩ (Nat.le_of_ble_eq_true rfl) (Nat.le_of_ble_eq_true rfl) (Nat.le_of_ble_eq_true rfl) dL_law_0 dL_law_3 dL_law_4 (fun a H locs hP hD hS => ?_)
  refine lv_astore_n (lv' := [(1, .ref (a 0)), (0, .ref b)]) hx hb dL_law_7 rfl hl (by decide) rfl (fun ls hl => ?_)
  refine r_newI X hl.1 hP hD hS (ci := 9) (fs := [.long 0, .null, .int 0, .null, .null, .null, .null, .null, .null, .null, .int 0, .int 0, .int 0, .int 0, .int 0, .null, .null, .null, .null, .int 0, .int 0, .int 0]) rfl inc_X9 tyX9 tyX9_ok ck_L_10 ins_X9 ini_X9 rfl (fun j hj => by
      match j, hj with
      | 0, _ => rfl
      | 1, _ => rfl
      | 2, _ => rfl
      | 3, _ => rfl
      | 4, _ => rfl
      | 5, _ => rfl
      | 6, _ => rfl
      | 7, _ => rfl
      | 8, _ => rfl
      | 9, _ => rfl
      | 10, _ => rfl
      | 11, _ => rfl
      | 12, _ => rfl
      | 13, _ => rfl
      | 14, _ => rfl
      | 15, _ => rfl
      | 16, _ => rfl
      | 17, _ => rfl
      | 18, _ => rfl
      | 19, _ => rfl
      | 20, _ => rfl
      | 21, _ => rfl
      | k + 22, h => omega) (c_X9_init l E hf9) cd_X9_init ml_L_12 im_X9_init rfl (by decide +kernel) ⟨rfl, rfl⟩ ⟨(Nat.le_of_ble_eq_true rfl), (Nat.le_of_ble_eq_true rfl)⟩ (Nat.le_of_ble_eq_true rfl) (Nat.le_of_ble_eq_true rfl) (Nat.le_of_ble_eq_true rfl) dL_law_8 dL_law_11 dL_law_12 (fun d H locs hP hD hS => ?_)
  refine lv_astore_n (lv' := [(2, .ref (d 0)), (1, .ref (a 0)), (0, .ref b)]) hx hb dL_law_15 rfl hl (by decide) rfl (fun ls hl => ?_)
  refine lv_iconst (v := 0) hx hb dL_law_16 (by decide) ?_
  refine lv_istore_n (lv' := [(3, .int 0), (2, .ref (d 0)), (1, .ref (a 0)), (0, .ref b)]) hx hb dL_law_17 rfl hl (by decide) rfl (fun ls hl => ?_)
  exact law_loop hL hSt C0 X (L + 6) 0 0 (Nat.zero_le L) (by omega) nI_0.symm a d σ 0 μ 0 hR H locs hP hD hS ls (lv_sub hl [3, 2, 1, 0] rfl)
