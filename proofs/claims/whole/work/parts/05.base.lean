/-! ===== BASE: contents, worlds that keep their addresses, contracts, calls, loops ===== -/
/-- what a shape's cells hold: cell, place, number -/
abbrev Sg : Type := Nat → Nat → Int32
def sg_st (σ : Sg) (k j : Nat) (v : Int32) : Sg := fun q => if q = k then upd (σ k) j v else σ q
def sg_ar (σ : Sg) (k : Nat) (f : Nat → Int32) : Sg := fun q => if q = k then f else σ q
def sg_off {α : Type} (f : Nat → α) (n : Nat) : Nat → α := fun k => f (n + k)
def sg_sp (σ : Sg) (b n : Nat) (τ : Sg) : Sg := fun k => if b ≤ k ∧ k < b + n then τ (k - b) else σ k
/-- the classes' numbers, the array classes, the addresses of what the statics hold -/
abbrev Ev : Type := va_G × (Nat → ClassId) × (Nat → Nat)
def tyl (c : Nat → ClassId) : List (ClassId × FieldType) := [(c 0, .int), (c 1, .boolean), (c 2, .object RX2), (c 3, .object RX3)]
def KK (E : Ev) (U : State) : Prop := va_K E.1 vwCl (tyl E.2.1) U
def am_choice : Nat → Int32 := fun j => ([0, 1, 4, 5, 8, 9, 12, 13, 16, 17, 20, 21] : List Int32).getD j 0
def am_plans : Nat → Int32 := fun j => ([1, 12, 144] : List Int32).getD j 0
def am_len : List Nat := [3, 5, 7, 4]
def am_byt : List (List Int32) := [[109, 97, 112], [119, 111, 114, 116, 104], [113, 117, 97, 114, 114, 101, 108], [116, 101, 97, 114]]
def am_tx : Nat → Nat × String := fun i => match i with
  | 0 => (48, "map")
  | 1 => (54, "worth")
  | 2 => (56, "quarrel")
  | _ => (58, "tear")
/-- what the start gives and nobody changes -/
def Amb (E : Ev) (A : Nat → Prop) (U : State) (H : Heap) : Prop :=
  va_Z RX5 "CHOICE" "[I" (.ref (E.2.2 0)) A U H ∧ va_T .int (E.2.2 0) 12 (fun j => .int (am_choice j)) A U H ∧ va_Z RX5 "PLANS_OF" "[I" (.ref (E.2.2 1)) A U H ∧ va_T .int (E.2.2 1) 3 (fun j => .int (am_plans j)) A U H ∧
  va_Z "java/lang/String" "COMPACT_STRINGS" "Z" (.int 1) A U H ∧ va_Zq "jdk/internal/util/Preconditions" "SIOOBE_FORMATTER" "Ljava/util/function/BiFunction;" A U H ∧ va_AO RX2 U ∧ va_AO RX3 U ∧
  vk_S 4 am_len am_byt (sg_off E.2.2 10) (sg_off E.2.2 20) A U H ∧ ∀ i : Nat, i < 4 → vk_R RX7 (am_tx i).1 (am_tx i).2 (E.2.2 (10 + i)) U
theorem Amb.kept {E : Ev} {A : Nat → Prop} {U : State} {H H1 : Heap} (h : Amb E A U H) (hq : ∀ a : Nat, a < H.size → ¬ A a → H1[a]? = H[a]?) : Amb E A U H1 := by
  obtain ⟨h1, h2, h3, h4, h5, h5b, h5c, h5d, h6, h7⟩ := h
  exact ⟨h1.kept hq, h2.kept hq, h3.kept hq, h4.kept hq, h5.kept hq, h5b.kept hq, h5c, h5d, h6.kept hq, h7⟩
theorem Amb.narrow {E : Ev} {A B : Nat → Prop} {U : State} {H : Heap} (h : Amb E A U H) (hAB : ∀ q, B q → A q) : Amb E B U H := by
  obtain ⟨h1, h2, h3, h4, h5, h5b, h5c, h5d, h6, h7⟩ := h
  exact ⟨h1.narrow hAB, h2.narrow hAB, h3.narrow hAB, h4.narrow hAB, h5.narrow hAB, h5b.narrow hAB, h5c, h5d, h6.narrow hAB, h7⟩
theorem Amb.warm {E : Ev} {A : Nat → Prop} {s U : State} {H : Heap} (hW : s.WarmedH U.vm) (h : Amb E A s H) : Amb E A U H := by
  obtain ⟨h1, h2, h3, h4, h5, h5b, h5c, h5d, h6, h7⟩ := h
  exact ⟨h1.moved hW.alike, h2.moved hW.alike, h3.moved hW.alike, h4.moved hW.alike, h5.moved hW.alike, h5b.moved hW.alike, h5c.moved hW.alike, h5d.moved hW.alike, h6.moved hW.alike, fun i hi => (h7 i hi).warm hW⟩
theorem Amb.same {E : Ev} {A : Nat → Prop} {s U : State} {H : Heap} (hv : U.vm = s.vm) (h : Amb E A s H) : Amb E A U H := by
  have ha : s.vm.Alike U.vm := by rw [hv]; exact Vm.Alike.refl _
  obtain ⟨h1, h2, h3, h4, h5, h5b, h5c, h5d, h6, h7⟩ := h
  exact ⟨h1.moved ha, h2.moved ha, h3.moved ha, h4.moved ha, h5.moved ha, h5b.moved ha, h5c.moved ha, h5d.moved ha, h6.moved ha, fun i hi => (h7 i hi).same hv⟩
theorem Amb.compact {E : Ev} {A : Nat → Prop} {U : State} {H : Heap} (h : Amb E A U H) : va_Z "java/lang/String" "COMPACT_STRINGS" "Z" (.int 1) A U H := h.2.2.2.2.1
theorem Amb.fmt {E : Ev} {A : Nat → Prop} {U : State} {H : Heap} (h : Amb E A U H) : va_Zq "jdk/internal/util/Preconditions" "SIOOBE_FORMATTER" "Ljava/util/function/BiFunction;" A U H := h.2.2.2.2.2.1
theorem Amb.ao2 {E : Ev} {A : Nat → Prop} {U : State} {H : Heap} (h : Amb E A U H) : va_AO RX2 U := h.2.2.2.2.2.2.1
theorem Amb.ao3 {E : Ev} {A : Nat → Prop} {U : State} {H : Heap} (h : Amb E A U H) : va_AO RX3 U := h.2.2.2.2.2.2.2.1
theorem Amb.strs {E : Ev} {A : Nat → Prop} {U : State} {H : Heap} (h : Amb E A U H) : vk_S 4 am_len am_byt (sg_off E.2.2 10) (sg_off E.2.2 20) A U H := h.2.2.2.2.2.2.2.2.1
theorem Amb.str {E : Ev} {A : Nat → Prop} {U : State} {H : Heap} (h : Amb E A U H) (i : Nat) (hi : i < 4) : vk_R RX7 (am_tx i).1 (am_tx i).2 (E.2.2 (10 + i)) U := h.2.2.2.2.2.2.2.2.2 i hi
/-- a method's start: its world, apart, and what nobody changes -/
def PreW (E : Ev) (w : va_W) (sz : Nat) : State → Prop := fun U => U.heap.size = sz ∧ va_P E.1 vwCl w U.heap ∧ KK E U ∧ va_D (fun _ => True) w ∧ Amb E (va_A w sz) U U.heap
/-- a method's words: its own code, and all words of the tables -/
def wl (y : MethodName) (cc : ByteArray) (mL : Nat) (ret : Option FieldType) : List Cond := Cond.code y cc mL ret :: lw_g
def QW (E : Ev) (w : va_W) (t : State) : Prop := va_P E.1 vwCl w t.heap
def MtV (l : Launch) (y : MethodName) (ws : List Cond) (rm : Room) (E : Ev) (av : List Value) (w w' : va_W) : Prop := ∀ sz : Nat, Met l y ws rm (va_Pc av (PreW E w sz)) (va_Qv (fun _ : Unit => True) (fun _ t => QW E w' t) (va_A w sz)) 0 0 (va_A w sz)
def MtI (l : Launch) (y : MethodName) (ws : List Cond) (rm : Room) (E : Ev) (av : List Value) (w : va_W) (r : Int32) (w' : va_W) : Prop := ∀ sz : Nat, Met l y ws rm (va_Pc av (PreW E w sz)) (va_Qi (fun x (_ : Unit) => x = r) (fun _ t => QW E w' t) (va_A w sz)) 0 0 (va_A w sz)
def MtL (l : Launch) (y : MethodName) (ws : List Cond) (rm : Room) (E : Ev) (av : List Value) (w : va_W) (r : Int64) (w' : va_W) : Prop := ∀ sz : Nat, Met l y ws rm (va_Pc av (PreW E w sz)) (va_Ql (fun x (_ : Unit) => x = r) (fun _ t => QW E w' t) (va_A w sz)) 0 0 (va_A w sz)
theorem preW_blind (E : Ev) (w : va_W) (sz : Nat) (av : List Value) : FrameBlind (va_Pc av (PreW E w sz)) := fun a U g mk q => by
  obtain ⟨q0, q1, qP, qK, qD, qA⟩ := q
  exact ⟨q0, q1, qP, va_K.moved (u := U) (U := U.calling g mk a) (Vm.Alike.refl U.vm) qK, qD, qA.same rfl⟩
theorem vD_addr {A : Nat → Prop} {ws ws' : va_W} (h : ws'.map Prod.fst = ws.map Prod.fst) (hD : va_D A ws) : va_D A ws' := by
  have key : ∀ (k : Nat) (q : Nat × va_E), ws'[k]? = some q → ∃ q0, ws[k]? = some q0 ∧ q0.1 = q.1 := by
    intro k q hk
    have h1 : (ws'.map Prod.fst)[k]? = some q.1 := by rw [List.getElem?_map, hk]; rfl
    rw [h, List.getElem?_map] at h1
    cases hq : ws[k]? with
    | none => rw [hq] at h1; cases h1
    | some q0 => rw [hq] at h1; exact ⟨q0, rfl, Option.some.inj h1⟩
  refine ⟨fun i j p q hi hj e => ?_, fun k q hk => ?_⟩
  · obtain ⟨p0, a1, a2⟩ := key i p hi
    obtain ⟨q0, b1, b2⟩ := key j q hj
    exact hD.1 i j p0 q0 a1 b1 (a2.trans (e.trans b2.symm))
  · obtain ⟨q0, a1, a2⟩ := key k q hk
    rw [← a2]
    exact hD.2 k q0 a1
theorem vsub_at {ws wc : va_W} {is : List Nat} (hC : is.map (fun i => ws[i]?) = wc.map some) (k : Nat) (q : Nat × va_E) (hk : wc[k]? = some q) : ∃ i : Nat, is[k]? = some i ∧ ws[i]? = some q := by
  have h1 : (is.map (fun i => ws[i]?))[k]? = some (some q) := by rw [hC, List.getElem?_map, hk]; rfl
  rw [List.getElem?_map] at h1
  cases hi : is[k]? with
  | none => rw [hi] at h1; cases h1
  | some i => rw [hi] at h1; exact ⟨i, rfl, Option.some.inj h1⟩
theorem vout {A : Nat → Prop} {D : va_G} {cl : List vw_C} {wb wc : va_W} {H : Heap} {is : List Nat} (hP : va_P D cl wb H) (hD : va_D A wb) (hC : is.map (fun i => wb[i]?) = wc.map some) {k : Nat} {q : Nat × va_E} (hk : wb[k]? = some q) (hn : k ∉ is) : q.1 < H.size ∧ ¬ va_A wc H.size q.1 := by
  have hl := (hP k q hk).lt
  refine ⟨hl, fun h => ?_⟩
  rcases h with ⟨k2, e, h⟩ | h
  · obtain ⟨j, h3, h4⟩ := vsub_at hC k2 (q.1, e) h
    have hij := hD.1 k j q (q.1, e) hk h4 rfl
    subst hij
    exact hn (List.mem_of_getElem? h3)
  · omega
/-- the part of a world that begins at kb is put back, changed -/
def PutOk (wb : va_W) (is : List Nat) (wc wc' c1 w' : va_W) (kb kn : Nat) : Prop := is.take kn = List.range' kb kn ∧ kb + kn ≤ wb.length ∧ c1.length = kn ∧ wc' = c1 ++ wc.drop kn ∧ wb.take kb ++ (c1 ++ wb.drop (kb + kn)) = w' ∧ w'.map Prod.fst = wb.map Prod.fst
theorem put_P {A : Nat → Prop} {D : va_G} {cl : List vw_C} {wb wc wc' c1 w' : va_W} {H H1 : Heap} {is : List Nat} {kb kn : Nat} (hP : va_P D cl wb H) (hD : va_D A wb) (hC : is.map (fun i => wb[i]?) = wc.map some) (ho : PutOk wb is wc wc' c1 w' kb kn)
    (hk : ∀ q : Nat, q < H.size → ¬ va_A wc H.size q → H1[q]? = H[q]?) (hP1 : va_P D cl wc' H1) : va_P D cl w' H1 := by
  obtain ⟨h1, h2, h3, h4, h5, -⟩ := ho
  have hlen : is.length = wc.length := by have e := congrArg List.length hC; simpa using e
  have out : ∀ (k : Nat) (q : Nat × va_E), (k < kb ∨ kb + kn ≤ k) → wb[k]? = some q → va_at D cl q H1 := by
    intro k q hr hq
    by_cases hi : k ∈ is
    · obtain ⟨j, hj⟩ := List.getElem?_of_mem hi
      have hjn : kn ≤ j := by
        rcases Nat.lt_or_ge j kn with g | g
        · have e1 : (is.take kn)[j]? = some k := by rw [List.getElem?_take_of_lt g]; exact hj
          rw [h1, List.getElem?_range' g] at e1
          have e2 := Option.some.inj e1
          omega
        · exact g
      have e2 : (is.map (fun i => wb[i]?))[j]? = some (some q) := by rw [List.getElem?_map, hj]; simp [hq]
      rw [hC, List.getElem?_map] at e2
      have e3 : wc[j]? = some q := by
        cases hc : wc[j]? with
        | none => rw [hc] at e2; cases e2
        | some q2 => rw [hc] at e2; exact congrArg some (Option.some.inj (Option.some.inj e2))
      refine hP1 j q ?_
      rw [h4, List.getElem?_append_right (by omega), List.getElem?_drop, h3]
      rw [show kn + (j - kn) = j by omega]
      exact e3
    · obtain ⟨g1, g2⟩ := vout hP hD hC hq hi
      exact (hP k q hq).kept (hk q.1 g1 g2)
  intro k q hq
  rw [← h5] at hq
  have ht : (wb.take kb).length = kb := by rw [List.length_take]; omega
  rcases Nat.lt_or_ge k kb with g | g
  · rw [List.getElem?_append_left (by omega), List.getElem?_take_of_lt g] at hq
    exact out k q (Or.inl g) hq
  · rw [List.getElem?_append_right (by omega), ht] at hq
    rcases Nat.lt_or_ge k (kb + kn) with g2 | g2
    · rw [List.getElem?_append_left (by omega)] at hq
      refine hP1 (k - kb) q ?_
      rw [h4, List.getElem?_append_left (by omega)]
      exact hq
    · rw [List.getElem?_append_right (by omega), List.getElem?_drop, h3] at hq
      rw [show kb + kn + (k - kb - kn) = k by omega] at hq
      exact out k q (Or.inr g2) hq
theorem wro_P {A : Nat → Prop} {D : va_G} {cl : List vw_C} {wb wc : va_W} {H H1 : Heap} {is : List Nat} (hP : va_P D cl wb H) (hD : va_D A wb) (hC : is.map (fun i => wb[i]?) = wc.map some)
    (hk : ∀ q : Nat, q < H.size → ¬ va_A wc H.size q → H1[q]? = H[q]?) (hP1 : va_P D cl wc H1) : va_P D cl wb H1 := by
  intro k q hq
  by_cases hi : k ∈ is
  · obtain ⟨j, hj⟩ := List.getElem?_of_mem hi
    have h1 : (is.map (fun i => wb[i]?))[j]? = some (some q) := by rw [List.getElem?_map, hj]; simp [hq]
    rw [hC, List.getElem?_map] at h1
    cases hc : wc[j]? with
    | none => rw [hc] at h1; cases h1
    | some q2 =>
      rw [hc] at h1
      have : q2 = q := Option.some.inj (Option.some.inj h1)
      subst this
      exact hP1 j q2 hc
  · obtain ⟨g1, g2⟩ := vout hP hD hC hq hi
    exact (hP k q hq).kept (hk q.1 g1 g2)
theorem preW_of {E : Ev} {A : Nat → Prop} {wb wc : va_W} {s : State} {H : Heap} {locs : List Loc} {is : List Nat} (hP : va_P E.1 vwCl wb H) (hD : va_D A wb) (hS : va_S A s.heap H locs) (hK : KK E s) (hAm : Amb E A s s.heap) (hA : ∀ q, s.heap.size ≤ q → A q) (hC : is.map (fun i => wb[i]?) = wc.map some) (hnd : va_nd is = true) :
    ∀ U : State, U.heap = H → s.WarmedH U.vm → PreW E wc H.size U := by
  intro U hU hW
  have hF := va_free (wc := wc) hD hS hA is hC
  refine ⟨by rw [hU], ?_, va_K.moved hW.alike hK, (hD.sub is hnd hC).weaken (fun _ _ _ _ => trivial), ?_⟩
  · rw [hU]
    intro k q hk
    obtain ⟨i, -, hi⟩ := vsub_at hC k q hk
    exact hP i q hi
  · rw [hU]
    exact ((hAm.kept hS.2.1).narrow hF).warm hW
/-- what a call of an instance method, of a static one, asks of the tables -/
def PkV (C : String) (y : MethodName) (cc : ByteArray) (mL : Nat) (ret : Option FieldType) (n : Nat) : Prop := Cond.instanceMethod y ∈ lw_g ∧ Cond.selects C y y ∈ lw_g ∧ Cond.initialized C ∈ lw_g ∧ Cond.code y cc mL ret ∈ lw_g ∧ (y.cls = C ∧ y.cls ≠ "java/lang/invoke/MethodHandle" ∧ y.cls ≠ "java/lang/invoke/VarHandle" ∧ (parseMethodDescriptor y.desc).map (fun d => d.parameters.length) = some n)
def PkS (y : MethodName) (cc : ByteArray) (mL : Nat) (ret : Option FieldType) (n : Nat) : Prop := Cond.static y ∈ lw_g ∧ Cond.initialized y.cls ∈ lw_g ∧ Cond.code y cc mL ret ∈ lw_g ∧ (y.cls ≠ "java/lang/invoke/MethodHandle" ∧ y.cls ≠ "java/lang/invoke/VarHandle" ∧ (parseMethodDescriptor y.desc).map (fun d => d.parameters.length) = some n)
theorem gd_wl {y : MethodName} {cc : ByteArray} {mL : Nat} {ret : Option FieldType} {pre : List Cond} (hp : ∀ w ∈ pre, w ∈ lw_g) (h : Cond.code y cc mL ret ∈ lw_g) : GoodIn lw_g (pre ++ wl y cc mL ret) := by
  intro w hw
  have h1 : w ∈ lw_g := by
    rcases List.mem_append.mp hw with h2 | h2
    · exact hp w h2
    · rcases List.mem_cons.mp h2 with h3 | h3
      · rw [h3]; exact h
      · exact h3
  exact ⟨h1, lw_g_good w h1⟩
theorem PkV.cw {R : Room} {s : State} {args : Array Value} {own C : String} {index mL n : Nat} {y : MethodName} {cc : ByteArray} {ret : Option FieldType} {rm : Room} (k : PkV C y cc mL ret n) (ht : ∀ w ∈ lw_g, w.before args s = true) (hl : Cond.methodLink own index y ∈ lw_g) (hr : rm.cells = 0 ∧ rm.slots = 0) (hR : rm.frames + 1 ≤ R.frames ∧ 8 + (mL + 11) + rm.locals ≤ R.locals) : CallW R s args own C index y cc mL ret (wl y cc mL ret) rm 0 0 n := by
  obtain ⟨k1, k2, k3, k4, k5⟩ := k
  refine cwV n ht (gd_wl (pre := [.methodLink own index y, .instanceMethod y, .selects C y y, .initialized C]) ?_ k4) rfl hr.1 hr.2 k5 hR
  intro w hw
  simp only [List.mem_cons, List.not_mem_nil, or_false] at hw
  rcases hw with rfl | rfl | rfl | rfl <;> assumption
theorem PkS.cw {R : Room} {s : State} {args : Array Value} {own : String} {index mL n : Nat} {y : MethodName} {cc : ByteArray} {ret : Option FieldType} {rm : Room} (k : PkS y cc mL ret n) (ht : ∀ w ∈ lw_g, w.before args s = true) (hl : Cond.methodLink own index y ∈ lw_g) (hr : rm.cells = 0 ∧ rm.slots = 0) (hR : rm.frames + 1 ≤ R.frames ∧ 8 + (mL + 11) + rm.locals ≤ R.locals) : CallB R s args own index y cc mL ret (wl y cc mL ret) rm 0 0 n ∧ (Cond.static y).before args s = true := by
  obtain ⟨k1, k2, k3, k4⟩ := k
  refine va_cwS n ht (gd_wl (pre := [.methodLink own index y, .static y, .initialized y.cls]) ?_ k3) rfl hr.1 hr.2 k4 hR
  intro w hw
  simp only [List.mem_cons, List.not_mem_nil, or_false] at hw
  rcases hw with rfl | rfl | rfl <;> assumption
theorem vin_d {z : Int32} {n : Nat} (h : decide (¬ (z < 0 ∨ n ≤ z.toNatClampNeg)) = true) : vp_in z n := by
  unfold vp_in
  exact of_decide_eq_true h
section CALLS
variable {p : Program} {l : Launch} {e : Env} {R : Room} {s : State} {m : MethodId} {args : Array Value} {below : List Frame} {meth : Method} {c : Code} {H : Heap} {locs : List Loc} {cells slots : Nat} {Q : State → Prop}
variable {cc : ByteArray} {pc nL : Nat} {ls : Array Slot} {rest st As : List Value} {A : Nat → Prop} {E : Ev} {wb wc wc' w' c1 : va_W} {kb kn : Nat} {own C : String}
variable {y : MethodName} {bytes : ByteArray} {maxL n index b : Nat} {ret : Option FieldType} {rm : Room} {av : Array Value}
/-- what every row of a walk stands on -/
def Cx (p : Program) (s : State) (m : MethodId) (args : Array Value) (meth : Method) (c : Code) (cc : ByteArray) (nL : Nat) (own : String) (E : Ev) (A : Nat → Prop) : Prop :=
  CallFix p m c cc nL s args lw_g own ∧ KK E s ∧ Amb E A s s.heap ∧ (∀ q, s.heap.size ≤ q → A q) ∧ meth.locks = false
/-- behind a call of a method that changes a part of the world: one of the three answers -/
theorem k_putI {r : Int32} {is : List Nat} (hr : va_Run p l e R s m args below meth c H locs cells slots 0 0 (F0 m pc ls st) rest (va_Qi (fun x (_ : Unit) => x = r) (fun _ t => QW E wc' t) (va_A wc H.size) av) (va_A wc H.size)) (X : Cx p s m args meth c cc nL own E A) (hP : va_P E.1 vwCl wb H) (hD : va_D A wb) (hS : va_S A s.heap H locs)
    (hC : is.map (fun i => wb[i]?) = wc.map some) (hpo : PutOk wb is wc wc' c1 w' kb kn)
    (kk : ∀ (H1 : Heap) (locs1 : List Loc), va_P E.1 vwCl w' H1 → va_D A w' → va_S A s.heap H1 locs1 → W p l e R s m args below meth c H1 locs1 cells slots Q (F0 m (pc + 3) ls (.int r :: rest))) : W p l e R s m args below meth c H locs cells slots Q (F0 m pc ls st) := by
  have hF := va_free (wc := wc) hD hS X.2.2.2.1 is hC
  refine va_calli hr hS (fun q _ h => hF q h) hF (fun r1 u t H1 locs1 ht hvm hw1 hB hz1 hk1 hS1 => ?_)
  subst hw1
  have h1 : va_P E.1 vwCl w' H1 := by
    refine put_P hP hD hC hpo hk1 ?_
    rw [← ht]
    exact hB
  exact kk H1 locs1 h1 (vD_addr hpo.2.2.2.2.2 hD) hS1
theorem k_putV {is : List Nat} (hr : va_Run p l e R s m args below meth c H locs cells slots 0 0 (F0 m pc ls st) rest (va_Qv (fun _ : Unit => True) (fun _ t => QW E wc' t) (va_A wc H.size) av) (va_A wc H.size)) (X : Cx p s m args meth c cc nL own E A) (hP : va_P E.1 vwCl wb H) (hD : va_D A wb) (hS : va_S A s.heap H locs)
    (hC : is.map (fun i => wb[i]?) = wc.map some) (hpo : PutOk wb is wc wc' c1 w' kb kn)
    (kk : ∀ (H1 : Heap) (locs1 : List Loc), va_P E.1 vwCl w' H1 → va_D A w' → va_S A s.heap H1 locs1 → W p l e R s m args below meth c H1 locs1 cells slots Q (F0 m (pc + 3) ls rest)) : W p l e R s m args below meth c H locs cells slots Q (F0 m pc ls st) := by
  have hF := va_free (wc := wc) hD hS X.2.2.2.1 is hC
  refine va_callv hr hS (fun q _ h => hF q h) hF (fun u t H1 locs1 ht hvm hw1 hB hz1 hk1 hS1 => ?_)
  have h1 : va_P E.1 vwCl w' H1 := by
    refine put_P hP hD hC hpo hk1 ?_
    rw [← ht]
    exact hB
  exact kk H1 locs1 h1 (vD_addr hpo.2.2.2.2.2 hD) hS1
theorem k_roI {r : Int32} {is : List Nat} (hr : va_Run p l e R s m args below meth c H locs cells slots 0 0 (F0 m pc ls st) rest (va_Qi (fun x (_ : Unit) => x = r) (fun _ t => QW E wc t) (va_A wc H.size) av) (va_A wc H.size)) (X : Cx p s m args meth c cc nL own E A) (hP : va_P E.1 vwCl wb H) (hD : va_D A wb) (hS : va_S A s.heap H locs)
    (hC : is.map (fun i => wb[i]?) = wc.map some)
    (kk : ∀ (H1 : Heap) (locs1 : List Loc), va_P E.1 vwCl wb H1 → va_S A s.heap H1 locs1 → W p l e R s m args below meth c H1 locs1 cells slots Q (F0 m (pc + 3) ls (.int r :: rest))) : W p l e R s m args below meth c H locs cells slots Q (F0 m pc ls st) := by
  have hF := va_free (wc := wc) hD hS X.2.2.2.1 is hC
  refine va_calli hr hS (fun q _ h => hF q h) hF (fun r1 u t H1 locs1 ht hvm hw1 hB hz1 hk1 hS1 => ?_)
  subst hw1
  exact kk H1 locs1 (wro_P hP hD hC hk1 (by rw [← ht]; exact hB)) hS1
theorem k_allI {r : Int32} (hr : va_Run p l e R s m args below meth c H locs cells slots 0 0 (F0 m pc ls st) rest (va_Qi (fun x (_ : Unit) => x = r) (fun _ t => QW E w' t) (va_A wb H.size) av) (va_A wb H.size)) (X : Cx p s m args meth c cc nL own E A) (hD : va_D A wb) (hS : va_S A s.heap H locs) (hadr' : w'.map Prod.fst = wb.map Prod.fst)
    (kk : ∀ (H1 : Heap) (locs1 : List Loc), va_P E.1 vwCl w' H1 → va_D A w' → va_S A s.heap H1 locs1 → W p l e R s m args below meth c H1 locs1 cells slots Q (F0 m (pc + 3) ls (.int r :: rest))) : W p l e R s m args below meth c H locs cells slots Q (F0 m pc ls st) := by
  have hF : ∀ q, va_A wb H.size q → A q := fun q h => by
    rcases h with ⟨k, e, h⟩ | h
    · exact hD.2 k (q, e) h
    · exact X.2.2.2.1 q (Nat.le_trans hS.1 h)
  refine va_calli hr hS (fun q _ h => hF q h) hF (fun r1 u t H1 locs1 ht hvm hw1 hB hz1 hk1 hS1 => ?_)
  subst hw1
  exact kk H1 locs1 (by rw [← ht]; exact hB) (vD_addr hadr' hD) hS1
theorem k_allL {r : Int64} (hr : va_Run p l e R s m args below meth c H locs cells slots 0 0 (F0 m pc ls st) rest (va_Ql (fun x (_ : Unit) => x = r) (fun _ t => QW E w' t) (va_A wb H.size) av) (va_A wb H.size)) (X : Cx p s m args meth c cc nL own E A) (hD : va_D A wb) (hS : va_S A s.heap H locs) (hadr' : w'.map Prod.fst = wb.map Prod.fst)
    (kk : ∀ (H1 : Heap) (locs1 : List Loc), va_P E.1 vwCl w' H1 → va_D A w' → va_S A s.heap H1 locs1 → W p l e R s m args below meth c H1 locs1 cells slots Q (F0 m (pc + 3) ls (.long r :: rest))) : W p l e R s m args below meth c H locs cells slots Q (F0 m pc ls st) := by
  have hF : ∀ q, va_A wb H.size q → A q := fun q h => by
    rcases h with ⟨k, e, h⟩ | h
    · exact hD.2 k (q, e) h
    · exact X.2.2.2.1 q (Nat.le_trans hS.1 h)
  refine va_calll hr hS (fun q _ h => hF q h) hF (fun r1 u t H1 locs1 ht hvm hw1 hB hz1 hk1 hS1 => ?_)
  subst hw1
  exact kk H1 locs1 (by rw [← ht]; exact hB) (vD_addr hadr' hD) hS1
theorem k_allV (hr : va_Run p l e R s m args below meth c H locs cells slots 0 0 (F0 m pc ls st) rest (va_Qv (fun _ : Unit => True) (fun _ t => QW E w' t) (va_A wb H.size) av) (va_A wb H.size)) (X : Cx p s m args meth c cc nL own E A) (hD : va_D A wb) (hS : va_S A s.heap H locs) (hadr' : w'.map Prod.fst = wb.map Prod.fst)
    (kk : ∀ (H1 : Heap) (locs1 : List Loc), va_P E.1 vwCl w' H1 → va_D A w' → va_S A s.heap H1 locs1 → W p l e R s m args below meth c H1 locs1 cells slots Q (F0 m (pc + 3) ls rest)) : W p l e R s m args below meth c H locs cells slots Q (F0 m pc ls st) := by
  have hF : ∀ q, va_A wb H.size q → A q := fun q h => by
    rcases h with ⟨k, e, h⟩ | h
    · exact hD.2 k (q, e) h
    · exact X.2.2.2.1 q (Nat.le_trans hS.1 h)
  refine va_callv hr hS (fun q _ h => hF q h) hF (fun u t H1 locs1 ht hvm hw1 hB hz1 hk1 hS1 => ?_)
  exact kk H1 locs1 (by rw [← ht]; exact hB) (vD_addr hadr' hD) hS1
theorem preW_all {w : va_W} (X : Cx p s m args meth c cc nL own E A) (hP : va_P E.1 vwCl w H) (hD : va_D A w) (hS : va_S A s.heap H locs) : ∀ U : State, U.heap = H → s.WarmedH U.vm → PreW E w H.size U := by
  intro U hU hW
  have hF : ∀ q, va_A w H.size q → A q := fun q h => by
    rcases h with ⟨k, e, h⟩ | h
    · exact hD.2 k (q, e) h
    · exact X.2.2.2.1 q (Nat.le_trans hS.1 h)
  refine ⟨by rw [hU], by rw [hU]; exact hP, va_K.moved hW.alike X.2.1, hD.weaken (fun _ _ _ _ => trivial), ?_⟩
  rw [hU]
  exact ((X.2.2.1.kept hS.2.1).narrow hF).warm hW

/-- an instance method that changes a part of the world and answers an int -/
theorem cV_putI {r : Int32} {is : List Nat} {ci : Nat} {fs : List Value} {q : vw_C} (X : Cx p s m args meth c cc nL own E A) (hM : MtI l y (wl y bytes maxL ret) rm E (.ref b :: As) wc r wc') (pk : PkV q.1 y bytes maxL ret n) (hl : Cond.methodLink own index y ∈ lw_g) (hrm : rm.cells = 0 ∧ rm.slots = 0) (hR : rm.frames + 1 ≤ R.frames ∧ 8 + (maxL + 11) + rm.locals ≤ R.locals) (hP : va_P E.1 vwCl wb H) (hD : va_D A wb) (hS : va_S A s.heap H locs)
    (hC : is.map (fun i => wb[i]?) = wc.map some) (hnd : va_nd is = true) (hrc : wc[0]? = some (b, .inr (ci, fs))) (hcl : vwCl[ci]? = some q) (hpo : PutOk wb is wc wc' c1 w' kb kn)
    (hn : As.length = n) (hsize : ls.size = nL) (hstack : st = As.reverse ++ .ref b :: rest) (hW : (rest.map fun v => v.category).sum ≤ 8) (hdg : decode cc pc = .ok (.invokevirtual index, 3)) (hf : cells ≤ R.cells ∧ slots ≤ R.slots)
    (kk : ∀ (H1 : Heap) (locs1 : List Loc), va_P E.1 vwCl w' H1 → va_D A w' → va_S A s.heap H1 locs1 → W p l e R s m args below meth c H1 locs1 cells slots Q (F0 m (pc + 3) ls (.int r :: rest))) : W p l e R s m args below meth c H locs cells slots Q (F0 m pc ls st) := by
  have hPc : va_P E.1 vwCl wc H := fun k q hk => by obtain ⟨i, -, hi⟩ := vsub_at hC k q hk; exact hP i q hi
  exact k_putI (va_runV (As := As) (rest := rest) X.1 (hM H.size) (pk.cw X.1.2.2.2.2 hl hrm hR) ⟨preW_blind _ _ _ _, va_recv X.2.1 hPc hcl hrc, fun U hU hW => ⟨rfl, preW_of hP hD hS X.2.1 X.2.2.1 X.2.2.2.1 hC hnd U hU hW⟩⟩ rfl hn hsize hstack (lv_room hW) hdg hf) X hP hD hS hC hpo kk
theorem cV_putV {is : List Nat} {ci : Nat} {fs : List Value} {q : vw_C} (X : Cx p s m args meth c cc nL own E A) (hM : MtV l y (wl y bytes maxL ret) rm E (.ref b :: As) wc wc') (pk : PkV q.1 y bytes maxL ret n) (hl : Cond.methodLink own index y ∈ lw_g) (hrm : rm.cells = 0 ∧ rm.slots = 0) (hR : rm.frames + 1 ≤ R.frames ∧ 8 + (maxL + 11) + rm.locals ≤ R.locals) (hP : va_P E.1 vwCl wb H) (hD : va_D A wb) (hS : va_S A s.heap H locs)
    (hC : is.map (fun i => wb[i]?) = wc.map some) (hnd : va_nd is = true) (hrc : wc[0]? = some (b, .inr (ci, fs))) (hcl : vwCl[ci]? = some q) (hpo : PutOk wb is wc wc' c1 w' kb kn)
    (hn : As.length = n) (hsize : ls.size = nL) (hstack : st = As.reverse ++ .ref b :: rest) (hW : (rest.map fun v => v.category).sum ≤ 8) (hdg : decode cc pc = .ok (.invokevirtual index, 3)) (hf : cells ≤ R.cells ∧ slots ≤ R.slots)
    (kk : ∀ (H1 : Heap) (locs1 : List Loc), va_P E.1 vwCl w' H1 → va_D A w' → va_S A s.heap H1 locs1 → W p l e R s m args below meth c H1 locs1 cells slots Q (F0 m (pc + 3) ls rest)) : W p l e R s m args below meth c H locs cells slots Q (F0 m pc ls st) := by
  have hPc : va_P E.1 vwCl wc H := fun k q hk => by obtain ⟨i, -, hi⟩ := vsub_at hC k q hk; exact hP i q hi
  exact k_putV (va_runV (As := As) (rest := rest) X.1 (hM H.size) (pk.cw X.1.2.2.2.2 hl hrm hR) ⟨preW_blind _ _ _ _, va_recv X.2.1 hPc hcl hrc, fun U hU hW => ⟨rfl, preW_of hP hD hS X.2.1 X.2.2.1 X.2.2.2.1 hC hnd U hU hW⟩⟩ rfl hn hsize hstack (lv_room hW) hdg hf) X hP hD hS hC hpo kk
theorem cV_roI {r : Int32} {is : List Nat} {ci : Nat} {fs : List Value} {q : vw_C} (X : Cx p s m args meth c cc nL own E A) (hM : MtI l y (wl y bytes maxL ret) rm E (.ref b :: As) wc r wc) (pk : PkV q.1 y bytes maxL ret n) (hl : Cond.methodLink own index y ∈ lw_g) (hrm : rm.cells = 0 ∧ rm.slots = 0) (hR : rm.frames + 1 ≤ R.frames ∧ 8 + (maxL + 11) + rm.locals ≤ R.locals) (hP : va_P E.1 vwCl wb H) (hD : va_D A wb) (hS : va_S A s.heap H locs)
    (hC : is.map (fun i => wb[i]?) = wc.map some) (hnd : va_nd is = true) (hrc : wc[0]? = some (b, .inr (ci, fs))) (hcl : vwCl[ci]? = some q)
    (hn : As.length = n) (hsize : ls.size = nL) (hstack : st = As.reverse ++ .ref b :: rest) (hW : (rest.map fun v => v.category).sum ≤ 8) (hdg : decode cc pc = .ok (.invokevirtual index, 3)) (hf : cells ≤ R.cells ∧ slots ≤ R.slots)
    (kk : ∀ (H1 : Heap) (locs1 : List Loc), va_P E.1 vwCl wb H1 → va_S A s.heap H1 locs1 → W p l e R s m args below meth c H1 locs1 cells slots Q (F0 m (pc + 3) ls (.int r :: rest))) : W p l e R s m args below meth c H locs cells slots Q (F0 m pc ls st) := by
  have hPc : va_P E.1 vwCl wc H := fun k q hk => by obtain ⟨i, -, hi⟩ := vsub_at hC k q hk; exact hP i q hi
  exact k_roI (va_runV (As := As) (rest := rest) X.1 (hM H.size) (pk.cw X.1.2.2.2.2 hl hrm hR) ⟨preW_blind _ _ _ _, va_recv X.2.1 hPc hcl hrc, fun U hU hW => ⟨rfl, preW_of hP hD hS X.2.1 X.2.2.1 X.2.2.2.1 hC hnd U hU hW⟩⟩ rfl hn hsize hstack (lv_room hW) hdg hf) X hP hD hS hC kk
theorem cV_allI {r : Int32} {ci : Nat} {fs : List Value} {q : vw_C} (X : Cx p s m args meth c cc nL own E A) (hM : MtI l y (wl y bytes maxL ret) rm E (.ref b :: As) wb r w') (pk : PkV q.1 y bytes maxL ret n) (hl : Cond.methodLink own index y ∈ lw_g) (hrm : rm.cells = 0 ∧ rm.slots = 0) (hR : rm.frames + 1 ≤ R.frames ∧ 8 + (maxL + 11) + rm.locals ≤ R.locals) (hP : va_P E.1 vwCl wb H) (hD : va_D A wb) (hS : va_S A s.heap H locs)
    (hrc : wb[0]? = some (b, .inr (ci, fs))) (hcl : vwCl[ci]? = some q) (hadr' : w'.map Prod.fst = wb.map Prod.fst)
    (hn : As.length = n) (hsize : ls.size = nL) (hstack : st = As.reverse ++ .ref b :: rest) (hW : (rest.map fun v => v.category).sum ≤ 8) (hdg : decode cc pc = .ok (.invokevirtual index, 3)) (hf : cells ≤ R.cells ∧ slots ≤ R.slots)
    (kk : ∀ (H1 : Heap) (locs1 : List Loc), va_P E.1 vwCl w' H1 → va_D A w' → va_S A s.heap H1 locs1 → W p l e R s m args below meth c H1 locs1 cells slots Q (F0 m (pc + 3) ls (.int r :: rest))) : W p l e R s m args below meth c H locs cells slots Q (F0 m pc ls st) :=
  k_allI (va_runV (As := As) (rest := rest) X.1 (hM H.size) (pk.cw X.1.2.2.2.2 hl hrm hR) ⟨preW_blind _ _ _ _, va_recv X.2.1 hP hcl hrc, fun U hU hW => ⟨rfl, preW_all X hP hD hS U hU hW⟩⟩ rfl hn hsize hstack (lv_room hW) hdg hf) X hD hS hadr' kk
theorem cV_allV {ci : Nat} {fs : List Value} {q : vw_C} (X : Cx p s m args meth c cc nL own E A) (hM : MtV l y (wl y bytes maxL ret) rm E (.ref b :: As) wb w') (pk : PkV q.1 y bytes maxL ret n) (hl : Cond.methodLink own index y ∈ lw_g) (hrm : rm.cells = 0 ∧ rm.slots = 0) (hR : rm.frames + 1 ≤ R.frames ∧ 8 + (maxL + 11) + rm.locals ≤ R.locals) (hP : va_P E.1 vwCl wb H) (hD : va_D A wb) (hS : va_S A s.heap H locs)
    (hrc : wb[0]? = some (b, .inr (ci, fs))) (hcl : vwCl[ci]? = some q) (hadr' : w'.map Prod.fst = wb.map Prod.fst)
    (hn : As.length = n) (hsize : ls.size = nL) (hstack : st = As.reverse ++ .ref b :: rest) (hW : (rest.map fun v => v.category).sum ≤ 8) (hdg : decode cc pc = .ok (.invokevirtual index, 3)) (hf : cells ≤ R.cells ∧ slots ≤ R.slots)
    (kk : ∀ (H1 : Heap) (locs1 : List Loc), va_P E.1 vwCl w' H1 → va_D A w' → va_S A s.heap H1 locs1 → W p l e R s m args below meth c H1 locs1 cells slots Q (F0 m (pc + 3) ls rest)) : W p l e R s m args below meth c H locs cells slots Q (F0 m pc ls st) :=
  k_allV (va_runV (As := As) (rest := rest) X.1 (hM H.size) (pk.cw X.1.2.2.2.2 hl hrm hR) ⟨preW_blind _ _ _ _, va_recv X.2.1 hP hcl hrc, fun U hU hW => ⟨rfl, preW_all X hP hD hS U hU hW⟩⟩ rfl hn hsize hstack (lv_room hW) hdg hf) X hD hS hadr' kk
/-- a static method that reads a part of the world (or none) -/
theorem cS_roI {r : Int32} {is : List Nat} (X : Cx p s m args meth c cc nL own E A) (hM : MtI l y (wl y bytes maxL ret) rm E As wc r wc) (pk : PkS y bytes maxL ret n) (hl : Cond.methodLink own index y ∈ lw_g) (hrm : rm.cells = 0 ∧ rm.slots = 0) (hR : rm.frames + 1 ≤ R.frames ∧ 8 + (maxL + 11) + rm.locals ≤ R.locals) (hP : va_P E.1 vwCl wb H) (hD : va_D A wb) (hS : va_S A s.heap H locs)
    (hC : is.map (fun i => wb[i]?) = wc.map some) (hnd : va_nd is = true)
    (hn : As.length = n) (hsize : ls.size = nL) (hstack : st = As.reverse ++ rest) (hW : (rest.map fun v => v.category).sum ≤ 8) (hdg : decode cc pc = .ok (.invokestatic index, 3)) (hf : cells ≤ R.cells ∧ slots ≤ R.slots)
    (kk : ∀ (H1 : Heap) (locs1 : List Loc), va_P E.1 vwCl wb H1 → va_S A s.heap H1 locs1 → W p l e R s m args below meth c H1 locs1 cells slots Q (F0 m (pc + 3) ls (.int r :: rest))) : W p l e R s m args below meth c H locs cells slots Q (F0 m pc ls st) :=
  k_roI (va_runS (As := As) (rest := rest) X.1 (hM H.size) (pk.cw X.1.2.2.2.2 hl hrm hR) ⟨preW_blind _ _ _ _, fun U hU hW => ⟨rfl, preW_of hP hD hS X.2.1 X.2.2.1 X.2.2.2.1 hC hnd U hU hW⟩⟩ rfl hn hsize hstack (lv_room hW) hdg hf) X hP hD hS hC kk
/-- a method of a text constant -/
theorem cStr {r : Int32} {i : Nat} (X : Cx p s m args meth c cc nL own E A) (hM : MtI l y (wl y bytes maxL ret) rm E (.ref (E.2.2 (10 + i)) :: As) [] r []) (hi : i < 4) (pk : PkV "java/lang/String" y bytes maxL ret n) (hl : Cond.methodLink own index y ∈ lw_g) (hrm : rm.cells = 0 ∧ rm.slots = 0) (hR : rm.frames + 1 ≤ R.frames ∧ 8 + (maxL + 11) + rm.locals ≤ R.locals) (hP : va_P E.1 vwCl wb H) (hD : va_D A wb) (hS : va_S A s.heap H locs)
    (hn : As.length = n) (hsize : ls.size = nL) (hstack : st = As.reverse ++ .ref (E.2.2 (10 + i)) :: rest) (hW : (rest.map fun v => v.category).sum ≤ 8) (hdg : decode cc pc = .ok (.invokevirtual index, 3)) (hf : cells ≤ R.cells ∧ slots ≤ R.slots)
    (kk : ∀ (H1 : Heap) (locs1 : List Loc), va_P E.1 vwCl wb H1 → va_S A s.heap H1 locs1 → W p l e R s m args below meth c H1 locs1 cells slots Q (F0 m (pc + 3) ls (.int r :: rest))) : W p l e R s m args below meth c H locs cells slots Q (F0 m pc ls st) :=
  k_roI (is := []) (va_runV (As := As) (rest := rest) X.1 (hM H.size) (pk.cw X.1.2.2.2.2 hl hrm hR) ⟨preW_blind _ _ _ _, vk_recv X.2.2.1.strs hi hS, fun U hU hW => ⟨rfl, preW_of (is := []) hP hD hS X.2.1 X.2.2.1 X.2.2.2.1 rfl rfl U hU hW⟩⟩ rfl hn hsize hstack (lv_room hW) hdg hf) X hP hD hS rfl kk
end CALLS
section ROWS
variable {p : Program} {l : Launch} {e : Env} {R : Room} {s : State} {m : MethodId} {args : Array Value} {below : List Frame} {meth : Method} {c : Code} {H : Heap} {locs : List Loc} {cells slots : Nat} {Q : State → Prop}
variable {cc : ByteArray} {pc nL : Nat} {ls : Array Slot} {rest : List Value} {A : Nat → Prop} {E : Ev} {w w' : va_W} {own : String} {a : Nat}
theorem r_get {C : String} {T : u_T} {N ci index : Nat} (X : Cx p s m args meth c cc nL own E A) (hP : va_P E.1 vwCl w H) (q0 : Nat) {fs : List Value} (he : w[q0]? = some (a, .inr (ci, fs))) (hc : vwCl[ci]? = some (C, T, N)) (hin : ∀ w ∈ u_ws C T N, w ∈ lw_g) (k : Nat) (hk : k < N) (hlink : Cond.fieldLink own index (T k).1 (T k).2.1 (T k).2.2.1 ∈ lw_g) {v : Value} (hv : fs[k]? = some v) (hdg : decode cc pc = .ok (.getfield index, 3))
    (kk : W p l e R s m args below meth c H locs cells slots Q (F0 m (pc + 3) ls (v :: rest))) : W p l e R s m args below meth c H locs cells slots Q (F0 m pc ls (.ref a :: rest)) :=
  va_get (D := E.1) (ci := ci) (v := v) (C := C) (T := T) (N := N) X.1.1 X.1.2.1 X.1.2.2.2.2 hin X.1.2.2.2.1 X.2.1 hP q0 he hc k hk (X.1.2.2.2.2 _ hlink) (fun _ h9 => h9) hv hdg kk
theorem r_put {C : String} {T : u_T} {N ci index : Nat} (X : Cx p s m args meth c cc nL own E A) (hP : va_P E.1 vwCl w H) (hD : va_D A w) (hS : va_S A s.heap H locs) (q0 : Nat) {fs : List Value} (he : w[q0]? = some (a, .inr (ci, fs))) (hc : vwCl[ci]? = some (C, T, N)) (hin : ∀ w ∈ u_ws C T N, w ∈ lw_g) (ty0 : Nat → FieldType) (hty : ∀ k, k < N → parseFieldDescriptor (T k).2.2.1 = some (ty0 k)) (hnm : ∀ a, a < N → ∀ b, b < N → a ≠ b → (T a).2.1 ≠ (T b).2.1) (k : Nat) (hk : k < N) (hlink : Cond.fieldLink own index (T k).1 (T k).2.1 (T k).2.2.1 ∈ lw_g) (hfin : (T k).2.2.2 = false) {ty : FieldType} {v : Value} (hd : ty0 k = ty) (hn : narrow ty v = v) (hfit : fits ty v = true) (hl : k < fs.length) (hw : w.set q0 (a, .inr (ci, fs.set k v)) = w')
    (hdg : decode cc pc = .ok (.putfield index, 3)) (kk : ∀ (H1 : Heap) (locs1 : List Loc), va_P E.1 vwCl w' H1 → va_D A w' → va_S A s.heap H1 locs1 → W p l e R s m args below meth c H1 locs1 cells slots Q (F0 m (pc + 3) ls rest)) : W p l e R s m args below meth c H locs cells slots Q (F0 m pc ls (v :: .ref a :: rest)) := by
  subst hw
  exact va_put (D := E.1) (ci := ci) (v := v) (ty := ty) (C := C) (T := T) (N := N) X.1.1 X.1.2.1 X.1.2.2.2.2 hin ty0 hty hnm X.1.2.2.2.1 X.2.1 hP hD hS q0 he hc k hk (X.1.2.2.2.2 _ hlink) (fun _ h9 => h9) hfin (by rw [hty k hk, hd]) hn hfit hl hdg kk
theorem r_iald (X : Cx p s m args meth c cc nL own E A) (hP : va_P E.1 vwCl w H) (q0 : Nat) {n : Nat} {f : Nat → Int32} (ha : w[q0]? = some (a, .inl (E.2.1 0, n, .inl f))) {i : Int32} (hin : vp_in i n) (hdg : decode cc pc = .ok (.iaload, 1))
    (kk : W p l e R s m args below meth c H locs cells slots Q (F0 m (pc + 1) ls (.int (f i.toNatClampNeg) :: rest))) : W p l e R s m args below meth c H locs cells slots Q (F0 m pc ls (.int i :: .ref a :: rest)) :=
  va_iald X.1.1 X.1.2.1 X.2.1 hP q0 0 ha rfl hin hdg kk
theorem r_zald (X : Cx p s m args meth c cc nL own E A) (hP : va_P E.1 vwCl w H) (q0 : Nat) {n : Nat} {f : Nat → Int32} (ha : w[q0]? = some (a, .inl (E.2.1 1, n, .inl f))) {i : Int32} (hin : vp_in i n) (hdg : decode cc pc = .ok (.baload, 1))
    (kk : W p l e R s m args below meth c H locs cells slots Q (F0 m (pc + 1) ls (.int (f i.toNatClampNeg) :: rest))) : W p l e R s m args below meth c H locs cells slots Q (F0 m pc ls (.int i :: .ref a :: rest)) :=
  va_zald X.1.1 X.1.2.1 X.2.1 hP q0 1 ha rfl hin hdg kk
theorem r_iast (X : Cx p s m args meth c cc nL own E A) (hP : va_P E.1 vwCl w H) (hD : va_D A w) (hS : va_S A s.heap H locs) (q0 : Nat) {n : Nat} {f : Nat → Int32} (ha : w[q0]? = some (a, .inl (E.2.1 0, n, .inl f))) {i x : Int32} (hin : vp_in i n) (hw : w.set q0 (a, .inl (E.2.1 0, n, .inl (upd f i.toNatClampNeg x))) = w') (hdg : decode cc pc = .ok (.iastore, 1))
    (kk : ∀ (H1 : Heap) (locs1 : List Loc), va_P E.1 vwCl w' H1 → va_D A w' → va_S A s.heap H1 locs1 → W p l e R s m args below meth c H1 locs1 cells slots Q (F0 m (pc + 1) ls rest)) : W p l e R s m args below meth c H locs cells slots Q (F0 m pc ls (.int x :: .int i :: .ref a :: rest)) := by
  subst hw
  exact va_iast X.1.1 X.1.2.1 X.2.1 hP hD hS q0 0 ha rfl hin hdg kk
theorem r_zast (X : Cx p s m args meth c cc nL own E A) (hP : va_P E.1 vwCl w H) (hD : va_D A w) (hS : va_S A s.heap H locs) (q0 : Nat) {n : Nat} {f : Nat → Int32} (ha : w[q0]? = some (a, .inl (E.2.1 1, n, .inl f))) {i x : Int32} (hin : vp_in i n) (hw : w.set q0 (a, .inl (E.2.1 1, n, .inl (upd f i.toNatClampNeg (vp_nar .boolean x)))) = w') (hdg : decode cc pc = .ok (.bastore, 1))
    (kk : ∀ (H1 : Heap) (locs1 : List Loc), va_P E.1 vwCl w' H1 → va_D A w' → va_S A s.heap H1 locs1 → W p l e R s m args below meth c H1 locs1 cells slots Q (F0 m (pc + 1) ls rest)) : W p l e R s m args below meth c H locs cells slots Q (F0 m pc ls (.int x :: .int i :: .ref a :: rest)) := by
  subst hw
  exact va_zast X.1.1 X.1.2.1 X.2.1 hP hD hS q0 1 ha rfl hin hdg kk
/-- a reference out of an array of objects, at a place that is known -/
theorem r_aldq (X : Cx p s m args meth c cc nL own E A) (hP : va_P E.1 vwCl w H) (q0 t0 : Nat) {cA : ClassId} {C : String} {n : Nat} {f : Nat → Option Nat} (ha : w[q0]? = some (a, .inl (cA, n, .inr (.inr (.inr (.inr f)))))) (ht : (tyl E.2.1)[t0]? = some (cA, .object C)) {i z : Int32} (hi : i = z) (hin : vp_in z n) {v : Nat} (hv : f z.toNatClampNeg = some v) (hdg : decode cc pc = .ok (.aaload, 1))
    (kk : W p l e R s m args below meth c H locs cells slots Q (F0 m (pc + 1) ls (.ref v :: rest))) : W p l e R s m args below meth c H locs cells slots Q (F0 m pc ls (.int i :: .ref a :: rest)) := by
  subst hi
  refine va_aldq X.1.1 X.1.2.1 X.2.1 hP q0 t0 ha ht hin hdg ?_
  rw [hv]
  exact kk
theorem r_copy (X : Cx p s m args meth c cc nL own E A) (hsz : ls.size = nL) (hP : va_P E.1 vwCl w H) (hD : va_D A w) (hS : va_S A s.heap H locs) {index : Nat} (hlink : Cond.methodLink own index arraycopyName ∈ lw_g) (hnat : Cond.native arraycopyName ∈ lw_g) (hstat : Cond.static arraycopyName ∈ lw_g) (hini : Cond.initialized "java/lang/System" ∈ lw_g) (q0 q1 : Nat) {a0 n0 n1 : Nat} {f g : Nat → Int32} (ha0 : w[q0]? = some (a0, .inl (E.2.1 0, n0, .inl f))) (ha1 : w[q1]? = some (a, .inl (E.2.1 0, n1, .inl g)))
    {sp dp n : Int32} (hck : (¬ sp < 0 ∧ ¬ dp < 0 ∧ ¬ n < 0) ∧ sp.toNatClampNeg + n.toNatClampNeg ≤ n0 ∧ dp.toNatClampNeg + n.toNatClampNeg ≤ n1) (hframes : 1 ≤ R.frames) (hlocals : (rest.map fun v => v.category).sum + (nativeFrameWords "java/lang/System" "arraycopy" 5 + 11) ≤ R.locals) (hw : w.set q1 (a, .inl (E.2.1 0, n1, .inl (va_cpy f g sp.toNatClampNeg dp.toNatClampNeg n.toNatClampNeg))) = w') (hdg : decode cc pc = .ok (.invokestatic index, 3))
    (kk : ∀ (H1 : Heap) (locs1 : List Loc), va_P E.1 vwCl w' H1 → va_D A w' → va_S A s.heap H1 locs1 → W p l e R s m args below meth c H1 locs1 cells slots Q (F0 m (pc + 3) ls rest)) : W p l e R s m args below meth c H locs cells slots Q (F0 m pc ls (.int n :: .int dp :: .ref a :: .int sp :: .ref a0 :: rest)) := by
  subst hw
  exact va_copyi (ty := .int) X.1.1 X.1.2.1 (X.1.2.2.1.trans hsz.symm) X.1.2.2.2.1 (X.1.2.2.2.2 _ hlink) (X.1.2.2.2.2 _ hnat) (X.1.2.2.2.2 _ hstat) (X.1.2.2.2.2 _ hini) X.2.1 hP hD hS q0 q1 0 0 ha0 ha1 rfl rfl rfl hck.1.1 hck.1.2.1 hck.1.2.2 hck.2.1 hck.2.2 (fun _ _ => rfl) hframes hlocals hdg kk
theorem r_max (X : Cx p s m args meth c cc nL own E A) (hsz : ls.size = nL) {index : Nat} (hlink : Cond.methodLink own index Lib.Math.max.name ∈ lw_g) (hstat : Cond.static Lib.Math.max.name ∈ lw_g) (hini : Cond.initialized "java/lang/Math" ∈ lw_g) (hcode : Cond.code Lib.Math.max.name Lib.Math.max.code 2 (some .int) ∈ lw_g) (hframes : 1 ≤ R.frames) (hlocals : (rest.map fun v => v.category).sum + 13 ≤ R.locals) (hc : cells ≤ R.cells) (hs : slots ≤ R.slots) {x y : Int32} (hdg : decode cc pc = .ok (.invokestatic index, 3))
    (kk : W p l e R s m args below meth c H locs cells slots Q (F0 m (pc + 3) ls (.int (if x < y then y else x) :: rest))) : W p l e R s m args below meth c H locs cells slots Q (F0 m pc ls (.int y :: .int x :: rest)) :=
  va_mmax X.1.1 X.1.2.1 (X.1.2.2.1.trans hsz.symm) X.1.2.2.2.1 (X.1.2.2.2.2 _ hlink) (X.1.2.2.2.2 _ hstat) (X.1.2.2.2.2 _ hini) (X.1.2.2.2.2 _ hcode) hframes hlocals hc hs hdg kk
theorem r_min (X : Cx p s m args meth c cc nL own E A) (hsz : ls.size = nL) {index : Nat} (hlink : Cond.methodLink own index Lib.Math.min.name ∈ lw_g) (hstat : Cond.static Lib.Math.min.name ∈ lw_g) (hini : Cond.initialized "java/lang/Math" ∈ lw_g) (hcode : Cond.code Lib.Math.min.name Lib.Math.min.code 2 (some .int) ∈ lw_g) (hframes : 1 ≤ R.frames) (hlocals : (rest.map fun v => v.category).sum + 13 ≤ R.locals) (hc : cells ≤ R.cells) (hs : slots ≤ R.slots) {x y : Int32} (hdg : decode cc pc = .ok (.invokestatic index, 3))
    (kk : W p l e R s m args below meth c H locs cells slots Q (F0 m (pc + 3) ls (.int (if y < x then y else x) :: rest))) : W p l e R s m args below meth c H locs cells slots Q (F0 m pc ls (.int y :: .int x :: rest)) :=
  va_mmin X.1.1 X.1.2.1 (X.1.2.2.1.trans hsz.symm) X.1.2.2.2.1 (X.1.2.2.2.2 _ hlink) (X.1.2.2.2.2 _ hstat) (X.1.2.2.2.2 _ hini) (X.1.2.2.2.2 _ hcode) hframes hlocals hc hs hdg kk
theorem r_abs (X : Cx p s m args meth c cc nL own E A) (hsz : ls.size = nL) {index : Nat} (hlink : Cond.methodLink own index Lib.Math.abs.name ∈ lw_g) (hstat : Cond.static Lib.Math.abs.name ∈ lw_g) (hini : Cond.initialized "java/lang/Math" ∈ lw_g) (hcode : Cond.code Lib.Math.abs.name Lib.Math.abs.code 1 (some .int) ∈ lw_g) (hframes : 1 ≤ R.frames) (hlocals : (rest.map fun v => v.category).sum + 13 ≤ R.locals) (hc : cells ≤ R.cells) (hs : slots ≤ R.slots) {x : Int32} (hdg : decode cc pc = .ok (.invokestatic index, 3))
    (kk : W p l e R s m args below meth c H locs cells slots Q (F0 m (pc + 3) ls (.int (if 0 ≤ x then x else 0 - x) :: rest))) : W p l e R s m args below meth c H locs cells slots Q (F0 m pc ls (.int x :: rest)) :=
  va_mabs X.1.1 X.1.2.1 (X.1.2.2.1.trans hsz.symm) X.1.2.2.2.1 (X.1.2.2.2.2 _ hlink) (X.1.2.2.2.2 _ hstat) (X.1.2.2.2.2 _ hini) (X.1.2.2.2.2 _ hcode) hframes hlocals hc hs hdg kk
/-- the ends -/
theorem r_iret {v r : Int32} (X : Cx p s m args meth c cc nL own E A) (hr : meth.sig.returnType = some .int) (hP : va_P E.1 vwCl w H) (hS : va_S A s.heap H locs) (hv : v = r) (hw : w = w') (hdg : decode cc pc = .ok (.ireturn, 1)) : W p l e R s m args below meth c H locs cells slots (MQ below (va_Qi (fun x (_ : Unit) => x = r) (fun _ t => QW E w' t) A) args s cells slots A) (F0 m pc ls [.int v]) := by
  subst hv; subst hw
  exact W.iret X.1.1 X.1.2.1 hr (fun t ht hW => ⟨⟨v, (), rfl, rfl, by show va_P _ _ _ _; rw [ht]; exact hP⟩, hS.F ht⟩) hS.2.2 hdg X.2.2.2.2
theorem r_zret {v r : Int32} (X : Cx p s m args meth c cc nL own E A) (hr : meth.sig.returnType = some .boolean) (hP : va_P E.1 vwCl w H) (hS : va_S A s.heap H locs) (hn : narrow .boolean (.int v) = .int v) (hv : v = r) (hw : w = w') (hdg : decode cc pc = .ok (.ireturn, 1)) : W p l e R s m args below meth c H locs cells slots (MQ below (va_Qi (fun x (_ : Unit) => x = r) (fun _ t => QW E w' t) A) args s cells slots A) (F0 m pc ls [.int v]) := by
  subst hv; subst hw
  exact W.zret X.1.1 X.1.2.1 hr hn (fun t ht hW => ⟨⟨v, (), rfl, rfl, by show va_P _ _ _ _; rw [ht]; exact hP⟩, hS.F ht⟩) hS.2.2 hdg X.2.2.2.2
theorem r_cret {v r : Int32} (X : Cx p s m args meth c cc nL own E A) (hr : meth.sig.returnType = some .char) (hP : va_P E.1 vwCl w H) (hS : va_S A s.heap H locs) (hn : narrow .char (.int v) = .int v) (hv : v = r) (hw : w = w') (hdg : decode cc pc = .ok (.ireturn, 1)) : W p l e R s m args below meth c H locs cells slots (MQ below (va_Qi (fun x (_ : Unit) => x = r) (fun _ t => QW E w' t) A) args s cells slots A) (F0 m pc ls [.int v]) := by
  subst hv; subst hw
  exact W.zret X.1.1 X.1.2.1 hr hn (fun t ht hW => ⟨⟨v, (), rfl, rfl, by show va_P _ _ _ _; rw [ht]; exact hP⟩, hS.F ht⟩) hS.2.2 hdg X.2.2.2.2
theorem r_bret {v r : Int32} (X : Cx p s m args meth c cc nL own E A) (hr : meth.sig.returnType = some .byte) (hP : va_P E.1 vwCl w H) (hS : va_S A s.heap H locs) (hn : narrow .byte (.int v) = .int v) (hv : v = r) (hw : w = w') (hdg : decode cc pc = .ok (.ireturn, 1)) : W p l e R s m args below meth c H locs cells slots (MQ below (va_Qi (fun x (_ : Unit) => x = r) (fun _ t => QW E w' t) A) args s cells slots A) (F0 m pc ls [.int v]) := by
  subst hv; subst hw
  exact W.zret X.1.1 X.1.2.1 hr hn (fun t ht hW => ⟨⟨v, (), rfl, rfl, by show va_P _ _ _ _; rw [ht]; exact hP⟩, hS.F ht⟩) hS.2.2 hdg X.2.2.2.2
theorem r_vret (X : Cx p s m args meth c cc nL own E A) (hr : meth.sig.returnType = none) (hP : va_P E.1 vwCl w H) (hS : va_S A s.heap H locs) (hw : w = w') (hdg : decode cc pc = .ok (.return_, 1)) : W p l e R s m args below meth c H locs cells slots (MQ below (va_Qv (fun _ : Unit => True) (fun _ t => QW E w' t) A) args s cells slots A) (F0 m pc ls []) := by
  subst hw
  exact W.vret X.1.1 X.1.2.1 hr (fun t ht hW => ⟨⟨(), rfl, trivial, by show va_P _ _ _ _; rw [ht]; exact hP⟩, hS.F ht⟩) hS.2.2 hdg X.2.2.2.2
theorem r_lret {v r : Int64} (X : Cx p s m args meth c cc nL own E A) (hr : meth.sig.returnType = some .long) (hP : va_P E.1 vwCl w H) (hS : va_S A s.heap H locs) (hv : v = r) (hw : w = w') (hdg : decode cc pc = .ok (.lreturn, 1)) : W p l e R s m args below meth c H locs cells slots (MQ below (va_Ql (fun x (_ : Unit) => x = r) (fun _ t => QW E w' t) A) args s cells slots A) (F0 m pc ls [.long v]) := by
  subst hv; subst hw
  exact W.lret X.1.1 X.1.2.1 hr (fun t ht hW => ⟨⟨v, (), rfl, rfl, by show va_P _ _ _ _; rw [ht]; exact hP⟩, hS.F ht⟩) hS.2.2 hdg X.2.2.2.2
end ROWS
/-- a method's walk gives its contract -/
theorem mt_of {l : Launch} {y : MethodName} {rm : Room} {E : Ev} {av : List Value} {w : va_W} {cc : ByteArray} {maxL : Nat} {ret : Option FieldType} {QQ : (Nat → Prop) → Array Value → State → Outcome → State → Prop} (hy : plainName y.cls = true) (hsl : (lg_sl av).length ≤ maxL)
    (body : ∀ (p : Program) (e : Env) (s : State) (m : MethodId) (below : List Frame) (meth : Method) (c : Code) (A : Nat → Prop) (ls : Array Slot), Cx p s m av.toArray meth c cc maxL y.cls E A → meth.sig.returnType = ret → va_P E.1 vwCl w s.heap → va_D A w → va_S A s.heap s.heap [] → lv_has ls maxL (lv_args 0 av) →
      W p l e rm s m av.toArray below meth c s.heap [] 0 0 (MQ below (QQ A) av.toArray s 0 0 A) (F0 m 0 ls [])) (sz : Nat) : Met l y (wl y cc maxL ret) rm (va_Pc av (PreW E w sz)) (QQ (va_A w sz)) 0 0 (va_A w sz) := by
  refine Met.ofW (cc := cc) (maxL := maxL) (ret := ret) hy rfl ?_
  intro p e s m args below meth c s₁ B hml hv
  obtain ⟨rfl, hsz, hP, hK, hD0, hAm⟩ := hv
  subst hsz
  have hD := hD0.self (sz := s.heap.size)
  have hl := lv_entry av (n := maxL) hsl
  rw [lg_entry_eq]
  exact body p e s m below meth c (va_A w s.heap.size) _ ⟨⟨B.exec, B.bytes, hml, findClass_of_methodNamed B.named, fun w hw => atoms_spec (ws := wl y cc maxL ret) B.pre w (List.mem_cons_of_mem _ hw)⟩, hK, hAm, fun q h => Or.inr h, B.notSynchronized⟩ B.returns hP hD va_S.rf hl
/-! ===== pure: checks, binds, loops ===== -/
/-- a place is looked at before it is used -/
def chk {R : Type} (i : Int32) (n : Nat) (k : Option R) : Option R := if i < 0 ∨ n ≤ i.toNatClampNeg then none else k
theorem chk_in {R : Type} {i : Int32} {n : Nat} {k : Option R} {o : R} (h : chk i n k = some o) : vp_in i n ∧ k = some o := by
  unfold chk at h
  split at h
  · cases h
  · next g => exact ⟨g, h⟩
def cnz {R : Type} (y : Int32) (k : Option R) : Option R := if y = 0 then none else k
theorem cnz_in {R : Type} {y : Int32} {k : Option R} {o : R} (h : cnz y k = some o) : ¬ y = 0 ∧ k = some o := by
  unfold cnz at h
  split at h
  · cases h
  · next g => exact ⟨g, h⟩
def cbl {R : Type} (v : Int32) (k : Option R) : Option R := if v = 0 ∨ v = 1 then k else none
theorem cbl_in {R : Type} {v : Int32} {k : Option R} {o : R} (h : cbl v k = some o) : (narrow .boolean (.int v) = .int v ∧ fits .boolean (.int v) = true) ∧ k = some o := by
  unfold cbl at h
  split at h
  · next g =>
    refine ⟨?_, h⟩
    rcases g with g | g <;> (subst g; exact ⟨rfl, rfl⟩)
  · cases h
def ccp {R : Type} (sp dp n : Int32) (n0 n1 : Nat) (k : Option R) : Option R := if (¬ sp < 0 ∧ ¬ dp < 0 ∧ ¬ n < 0) ∧ sp.toNatClampNeg + n.toNatClampNeg ≤ n0 ∧ dp.toNatClampNeg + n.toNatClampNeg ≤ n1 then k else none
theorem ccp_in {R : Type} {sp dp n : Int32} {n0 n1 : Nat} {k : Option R} {o : R} (h : ccp sp dp n n0 n1 k = some o) : ((¬ sp < 0 ∧ ¬ dp < 0 ∧ ¬ n < 0) ∧ sp.toNatClampNeg + n.toNatClampNeg ≤ n0 ∧ dp.toNatClampNeg + n.toNatClampNeg ≤ n1) ∧ k = some o := by
  unfold ccp at h
  split at h
  · next g => exact ⟨g, h⟩
  · cases h
theorem obd {α β : Type} {o : Option α} {k : α → Option β} {r : β} (h : o.bind k = some r) : ∃ z : α, o = some z ∧ k z = some r := by
  cases o with
  | none => cases h
  | some z => exact ⟨z, rfl, h⟩
theorem ob_none {β : Type} {r : β} {P : Prop} (h : (none : Option β) = some r) : P := by cases h
/-- a table switch, none of whose cases is met -/
theorem tsw_out {x : Int32} {lo hi : Int} (h : ∀ j : Int, lo ≤ j → j ≤ hi → ¬ x = Int32.ofInt j) : x.toInt < lo ∨ hi < x.toInt := by
  rcases Int.lt_or_le x.toInt lo with h1 | h1
  · exact Or.inl h1
  · rcases Int.lt_or_le hi x.toInt with h2 | h2
    · exact Or.inr h2
    · exact absurd (Int32.ofInt_toInt x).symm (h x.toInt h1 h2)
def lc1 {R : Type} {T1 : Type} (step : T1 → (T1 → Option R) → Option R) : Nat → T1 → Option R
  | 0, _ => none
  | n + 1, x1 => step x1 (lc1 step n)
theorem lc1_ind {R : Type} {T1 : Type} {step : T1 → (T1 → Option R) → Option R} {o : R} (G : T1 → Prop) (h : ∀ (x1 : T1) (κ : T1 → Option R), (∀ (x1 : T1), κ x1 = some o → G x1) → step x1 κ = some o → G x1) : ∀ (n : Nat) (x1 : T1), lc1 step n x1 = some o → G x1
  | 0, _, hf => by cases hf
  | n + 1, x1, hf => h x1 (lc1 step n) (lc1_ind G h n) hf
def lc2 {R : Type} {T1 T2 : Type} (step : T1 → T2 → (T1 → T2 → Option R) → Option R) : Nat → T1 → T2 → Option R
  | 0, _, _ => none
  | n + 1, x1, x2 => step x1 x2 (lc2 step n)
theorem lc2_ind {R : Type} {T1 T2 : Type} {step : T1 → T2 → (T1 → T2 → Option R) → Option R} {o : R} (G : T1 → T2 → Prop) (h : ∀ (x1 : T1) (x2 : T2) (κ : T1 → T2 → Option R), (∀ (x1 : T1) (x2 : T2), κ x1 x2 = some o → G x1 x2) → step x1 x2 κ = some o → G x1 x2) : ∀ (n : Nat) (x1 : T1) (x2 : T2), lc2 step n x1 x2 = some o → G x1 x2
  | 0, _, _, hf => by cases hf
  | n + 1, x1, x2, hf => h x1 x2 (lc2 step n) (lc2_ind G h n) hf
def lc3 {R : Type} {T1 T2 T3 : Type} (step : T1 → T2 → T3 → (T1 → T2 → T3 → Option R) → Option R) : Nat → T1 → T2 → T3 → Option R
  | 0, _, _, _ => none
  | n + 1, x1, x2, x3 => step x1 x2 x3 (lc3 step n)
theorem lc3_ind {R : Type} {T1 T2 T3 : Type} {step : T1 → T2 → T3 → (T1 → T2 → T3 → Option R) → Option R} {o : R} (G : T1 → T2 → T3 → Prop) (h : ∀ (x1 : T1) (x2 : T2) (x3 : T3) (κ : T1 → T2 → T3 → Option R), (∀ (x1 : T1) (x2 : T2) (x3 : T3), κ x1 x2 x3 = some o → G x1 x2 x3) → step x1 x2 x3 κ = some o → G x1 x2 x3) : ∀ (n : Nat) (x1 : T1) (x2 : T2) (x3 : T3), lc3 step n x1 x2 x3 = some o → G x1 x2 x3
  | 0, _, _, _, hf => by cases hf
  | n + 1, x1, x2, x3, hf => h x1 x2 x3 (lc3 step n) (lc3_ind G h n) hf
def lc4 {R : Type} {T1 T2 T3 T4 : Type} (step : T1 → T2 → T3 → T4 → (T1 → T2 → T3 → T4 → Option R) → Option R) : Nat → T1 → T2 → T3 → T4 → Option R
  | 0, _, _, _, _ => none
  | n + 1, x1, x2, x3, x4 => step x1 x2 x3 x4 (lc4 step n)
theorem lc4_ind {R : Type} {T1 T2 T3 T4 : Type} {step : T1 → T2 → T3 → T4 → (T1 → T2 → T3 → T4 → Option R) → Option R} {o : R} (G : T1 → T2 → T3 → T4 → Prop) (h : ∀ (x1 : T1) (x2 : T2) (x3 : T3) (x4 : T4) (κ : T1 → T2 → T3 → T4 → Option R), (∀ (x1 : T1) (x2 : T2) (x3 : T3) (x4 : T4), κ x1 x2 x3 x4 = some o → G x1 x2 x3 x4) → step x1 x2 x3 x4 κ = some o → G x1 x2 x3 x4) : ∀ (n : Nat) (x1 : T1) (x2 : T2) (x3 : T3) (x4 : T4), lc4 step n x1 x2 x3 x4 = some o → G x1 x2 x3 x4
  | 0, _, _, _, _, hf => by cases hf
  | n + 1, x1, x2, x3, x4, hf => h x1 x2 x3 x4 (lc4 step n) (lc4_ind G h n) hf
def lc5 {R : Type} {T1 T2 T3 T4 T5 : Type} (step : T1 → T2 → T3 → T4 → T5 → (T1 → T2 → T3 → T4 → T5 → Option R) → Option R) : Nat → T1 → T2 → T3 → T4 → T5 → Option R
  | 0, _, _, _, _, _ => none
  | n + 1, x1, x2, x3, x4, x5 => step x1 x2 x3 x4 x5 (lc5 step n)
theorem lc5_ind {R : Type} {T1 T2 T3 T4 T5 : Type} {step : T1 → T2 → T3 → T4 → T5 → (T1 → T2 → T3 → T4 → T5 → Option R) → Option R} {o : R} (G : T1 → T2 → T3 → T4 → T5 → Prop) (h : ∀ (x1 : T1) (x2 : T2) (x3 : T3) (x4 : T4) (x5 : T5) (κ : T1 → T2 → T3 → T4 → T5 → Option R), (∀ (x1 : T1) (x2 : T2) (x3 : T3) (x4 : T4) (x5 : T5), κ x1 x2 x3 x4 x5 = some o → G x1 x2 x3 x4 x5) → step x1 x2 x3 x4 x5 κ = some o → G x1 x2 x3 x4 x5) : ∀ (n : Nat) (x1 : T1) (x2 : T2) (x3 : T3) (x4 : T4) (x5 : T5), lc5 step n x1 x2 x3 x4 x5 = some o → G x1 x2 x3 x4 x5
  | 0, _, _, _, _, _, hf => by cases hf
  | n + 1, x1, x2, x3, x4, x5, hf => h x1 x2 x3 x4 x5 (lc5 step n) (lc5_ind G h n) hf
def lc6 {R : Type} {T1 T2 T3 T4 T5 T6 : Type} (step : T1 → T2 → T3 → T4 → T5 → T6 → (T1 → T2 → T3 → T4 → T5 → T6 → Option R) → Option R) : Nat → T1 → T2 → T3 → T4 → T5 → T6 → Option R
  | 0, _, _, _, _, _, _ => none
  | n + 1, x1, x2, x3, x4, x5, x6 => step x1 x2 x3 x4 x5 x6 (lc6 step n)
theorem lc6_ind {R : Type} {T1 T2 T3 T4 T5 T6 : Type} {step : T1 → T2 → T3 → T4 → T5 → T6 → (T1 → T2 → T3 → T4 → T5 → T6 → Option R) → Option R} {o : R} (G : T1 → T2 → T3 → T4 → T5 → T6 → Prop) (h : ∀ (x1 : T1) (x2 : T2) (x3 : T3) (x4 : T4) (x5 : T5) (x6 : T6) (κ : T1 → T2 → T3 → T4 → T5 → T6 → Option R), (∀ (x1 : T1) (x2 : T2) (x3 : T3) (x4 : T4) (x5 : T5) (x6 : T6), κ x1 x2 x3 x4 x5 x6 = some o → G x1 x2 x3 x4 x5 x6) → step x1 x2 x3 x4 x5 x6 κ = some o → G x1 x2 x3 x4 x5 x6) : ∀ (n : Nat) (x1 : T1) (x2 : T2) (x3 : T3) (x4 : T4) (x5 : T5) (x6 : T6), lc6 step n x1 x2 x3 x4 x5 x6 = some o → G x1 x2 x3 x4 x5 x6
  | 0, _, _, _, _, _, _, hf => by cases hf
  | n + 1, x1, x2, x3, x4, x5, x6, hf => h x1 x2 x3 x4 x5 x6 (lc6 step n) (lc6_ind G h n) hf
def lc7 {R : Type} {T1 T2 T3 T4 T5 T6 T7 : Type} (step : T1 → T2 → T3 → T4 → T5 → T6 → T7 → (T1 → T2 → T3 → T4 → T5 → T6 → T7 → Option R) → Option R) : Nat → T1 → T2 → T3 → T4 → T5 → T6 → T7 → Option R
  | 0, _, _, _, _, _, _, _ => none
  | n + 1, x1, x2, x3, x4, x5, x6, x7 => step x1 x2 x3 x4 x5 x6 x7 (lc7 step n)
theorem lc7_ind {R : Type} {T1 T2 T3 T4 T5 T6 T7 : Type} {step : T1 → T2 → T3 → T4 → T5 → T6 → T7 → (T1 → T2 → T3 → T4 → T5 → T6 → T7 → Option R) → Option R} {o : R} (G : T1 → T2 → T3 → T4 → T5 → T6 → T7 → Prop) (h : ∀ (x1 : T1) (x2 : T2) (x3 : T3) (x4 : T4) (x5 : T5) (x6 : T6) (x7 : T7) (κ : T1 → T2 → T3 → T4 → T5 → T6 → T7 → Option R), (∀ (x1 : T1) (x2 : T2) (x3 : T3) (x4 : T4) (x5 : T5) (x6 : T6) (x7 : T7), κ x1 x2 x3 x4 x5 x6 x7 = some o → G x1 x2 x3 x4 x5 x6 x7) → step x1 x2 x3 x4 x5 x6 x7 κ = some o → G x1 x2 x3 x4 x5 x6 x7) : ∀ (n : Nat) (x1 : T1) (x2 : T2) (x3 : T3) (x4 : T4) (x5 : T5) (x6 : T6) (x7 : T7), lc7 step n x1 x2 x3 x4 x5 x6 x7 = some o → G x1 x2 x3 x4 x5 x6 x7
  | 0, _, _, _, _, _, _, _, hf => by cases hf
  | n + 1, x1, x2, x3, x4, x5, x6, x7, hf => h x1 x2 x3 x4 x5 x6 x7 (lc7 step n) (lc7_ind G h n) hf
def lc8 {R : Type} {T1 T2 T3 T4 T5 T6 T7 T8 : Type} (step : T1 → T2 → T3 → T4 → T5 → T6 → T7 → T8 → (T1 → T2 → T3 → T4 → T5 → T6 → T7 → T8 → Option R) → Option R) : Nat → T1 → T2 → T3 → T4 → T5 → T6 → T7 → T8 → Option R
  | 0, _, _, _, _, _, _, _, _ => none
  | n + 1, x1, x2, x3, x4, x5, x6, x7, x8 => step x1 x2 x3 x4 x5 x6 x7 x8 (lc8 step n)
theorem lc8_ind {R : Type} {T1 T2 T3 T4 T5 T6 T7 T8 : Type} {step : T1 → T2 → T3 → T4 → T5 → T6 → T7 → T8 → (T1 → T2 → T3 → T4 → T5 → T6 → T7 → T8 → Option R) → Option R} {o : R} (G : T1 → T2 → T3 → T4 → T5 → T6 → T7 → T8 → Prop) (h : ∀ (x1 : T1) (x2 : T2) (x3 : T3) (x4 : T4) (x5 : T5) (x6 : T6) (x7 : T7) (x8 : T8) (κ : T1 → T2 → T3 → T4 → T5 → T6 → T7 → T8 → Option R), (∀ (x1 : T1) (x2 : T2) (x3 : T3) (x4 : T4) (x5 : T5) (x6 : T6) (x7 : T7) (x8 : T8), κ x1 x2 x3 x4 x5 x6 x7 x8 = some o → G x1 x2 x3 x4 x5 x6 x7 x8) → step x1 x2 x3 x4 x5 x6 x7 x8 κ = some o → G x1 x2 x3 x4 x5 x6 x7 x8) : ∀ (n : Nat) (x1 : T1) (x2 : T2) (x3 : T3) (x4 : T4) (x5 : T5) (x6 : T6) (x7 : T7) (x8 : T8), lc8 step n x1 x2 x3 x4 x5 x6 x7 x8 = some o → G x1 x2 x3 x4 x5 x6 x7 x8
  | 0, _, _, _, _, _, _, _, _, hf => by cases hf
  | n + 1, x1, x2, x3, x4, x5, x6, x7, x8, hf => h x1 x2 x3 x4 x5 x6 x7 x8 (lc8 step n) (lc8_ind G h n) hf
