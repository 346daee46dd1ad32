/-! ===== constructors: rows that make cells ===== -/
def sgz : Sg := fun _ _ => 0
/-- a constructor's contract: the object's own cell grows to a world at addresses of its own -/
def MtN (l : Launch) (y : MethodName) (cc : ByteArray) (mL : Nat) (rm : Room) (E : Ev) (ci : Nat) (fs : List Value) (mc ms : Nat) (wf : (Nat → Nat) → va_W) : Prop :=
  ∀ h0 sz : Nat, Met l y (wl y cc mL none) rm (va_Pc [.ref h0] (PreW E [(h0, .inr (ci, fs))] sz)) (va_Qv (fun u : Nat → Nat => u 0 = h0) (fun u t => va_P E.1 vwCl (wf u) t.heap ∧ va_D (va_A [(h0, .inr (ci, fs))] sz) (wf u)) (va_A [(h0, .inr (ci, fs))] sz)) mc ms (va_A [(h0, .inr (ci, fs))] sz)
theorem mtN_of {l : Launch} {y : MethodName} {rm : Room} {E : Ev} {ci mc ms : Nat} {fs : List Value} {wf : (Nat → Nat) → va_W} {cc : ByteArray} {maxL : Nat} (hy : plainName y.cls = true) (hyn : y.name = "<init>") (hsl : 1 ≤ maxL)
    (body : ∀ (p : Program) (e : Env) (s : State) (m : MethodId) (below : List Frame) (meth : Method) (c : Code) (A : Nat → Prop) (ls : Array Slot) (h0 : Nat), Cx p s m ([.ref h0] : List Value).toArray meth c cc maxL y.cls E A → meth.sig.returnType = none → meth.name = "<init>" → va_P E.1 vwCl [(h0, .inr (ci, fs))] s.heap → va_D A [(h0, .inr (ci, fs))] → va_S A s.heap s.heap [] → lv_has ls maxL [(0, .ref h0)] →
      W p l e rm s m ([.ref h0] : List Value).toArray below meth c s.heap [] 0 0 (MQ below (va_Qv (fun u : Nat → Nat => u 0 = h0) (fun u t => va_P E.1 vwCl (wf u) t.heap ∧ va_D A (wf u)) A) ([.ref h0] : List Value).toArray s mc ms A) (F0 m 0 ls [])) : MtN l y cc maxL rm E ci fs mc ms wf := by
  intro h0 sz
  refine Met.ofW (cc := cc) (maxL := maxL) (ret := none) hy rfl ?_
  intro p e s m args below meth c s₁ B hml hv
  obtain ⟨rfl, hsz, hP, hK, hD0, hAm⟩ := hv
  subst hsz
  have hD := hD0.self (sz := s.heap.size)
  have hl := lv_entry [.ref h0] (n := maxL) hsl
  rw [lg_entry_eq]
  exact body p e s m below meth c (va_A [(h0, .inr (ci, fs))] s.heap.size) _ h0 ⟨⟨B.exec, B.bytes, hml, findClass_of_methodNamed B.named, fun w hw => atoms_spec (ws := wl y cc maxL none) B.pre w (List.mem_cons_of_mem _ hw)⟩, hK, hAm, fun q h => Or.inr h, B.notSynchronized⟩ B.returns ((name_of_methodNamed B.named B.method).1.trans hyn) hP hD va_S.rf hl
section CTOR
variable {p : Program} {l : Launch} {e : Env} {R : Room} {s : State} {m : MethodId} {args : Array Value} {below : List Frame} {meth : Method} {c : Code} {H : Heap} {locs : List Loc} {cells slots : Nat} {Q : State → Prop}
variable {cc : ByteArray} {pc nL : Nat} {ls : Array Slot} {rest : List Value} {A : Nat → Prop} {E : Ev} {w w' : va_W} {own : String} {a : Nat}
theorem r_obj (X : Cx p s m args meth c cc nL own E A) (hsz : ls.size = nL) {idx : Nat} (hl : Cond.methodLink own idx objectInit ∈ lw_g) (hfr : 1 ≤ R.frames) (hlo : (rest.map fun v => v.category).sum + 12 ≤ R.locals) (hdg : decode cc pc = .ok (.invokespecial idx, 3))
    (kk : W p l e R s m args below meth c H locs cells slots Q (F0 m (pc + 3) ls rest)) : W p l e R s m args below meth c H locs cells slots Q (F0 m pc ls (.ref a :: rest)) := by
  refine W.objInit X.1.1 X.1.2.1 X.1.2.2.2.1 (X.1.2.2.2.2 _ hl) (X.1.2.2.2.2 _ im_objectInit) (X.1.2.2.2.2 _ cd_objectInit) rfl (hsz.trans X.1.2.2.1.symm) rfl hdg hfr ?_ kk
  show 2 * 0 + _ + 12 ≤ _
  omega
theorem r_newi {n : Int32} {N : Nat} (X : Cx p s m args meth c cc nL own E A) (hP : va_P E.1 vwCl w H) (hD : va_D A w) (hS : va_S A s.heap H locs) (hn : ¬ n < 0) (hN : n.toNatClampNeg = N) (hbytes : N * 4 ≤ 536870912) (hcells : cells + 1 ≤ R.cells) (hslots : slots + N ≤ R.slots) (hdg : decode cc pc = .ok (.newarray .int, 2))
    (kk : ∀ (q : Nat) (H1 : Heap), va_P E.1 vwCl (w ++ [(q, .inl (E.2.1 0, N, .inl (sgz 0)))]) H1 → va_D A (w ++ [(q, .inl (E.2.1 0, N, .inl (sgz 0)))]) → va_S A s.heap H1 locs → W p l e R s m args below meth c H1 locs (cells + 1) (slots + N) Q (F0 m (pc + 2) ls (.ref q :: rest))) : W p l e R s m args below meth c H locs cells slots Q (F0 m pc ls (.int n :: rest)) := by
  refine va_newa (atype := .int) (ty := .int) (a0 := (N, .inl (sgz 0))) X.1.1 X.1.2.1 (X.1.2.2.2.2 _ arr_int) rfl X.2.1 hP hD hS X.2.2.2.1 (fun cA => by rw [vp_cell_i]; rfl) hn hN hbytes hcells hslots hdg (fun q cA H1 hK1 hP1 hD1 hS1 => ?_)
  have h1 := (hK1.2 4 (cA, .int) rfl).2
  have h2 := (X.2.1.2 0 (E.2.1 0, .int) rfl).2
  have h3 : cA = E.2.1 0 := Option.some.inj (h1.symm.trans h2)
  subst h3
  exact kk q H1 hP1 hD1 hS1
theorem r_newz {n : Int32} {N : Nat} (X : Cx p s m args meth c cc nL own E A) (hP : va_P E.1 vwCl w H) (hD : va_D A w) (hS : va_S A s.heap H locs) (hn : ¬ n < 0) (hN : n.toNatClampNeg = N) (hbytes : N * 1 ≤ 536870912) (hcells : cells + 1 ≤ R.cells) (hslots : slots + N ≤ R.slots) (hdg : decode cc pc = .ok (.newarray .boolean, 2))
    (kk : ∀ (q : Nat) (H1 : Heap), va_P E.1 vwCl (w ++ [(q, .inl (E.2.1 1, N, .inl (sgz 0)))]) H1 → va_D A (w ++ [(q, .inl (E.2.1 1, N, .inl (sgz 0)))]) → va_S A s.heap H1 locs → W p l e R s m args below meth c H1 locs (cells + 1) (slots + N) Q (F0 m (pc + 2) ls (.ref q :: rest))) : W p l e R s m args below meth c H locs cells slots Q (F0 m pc ls (.int n :: rest)) := by
  refine va_newa (atype := .boolean) (ty := .boolean) (a0 := (N, .inl (sgz 0))) X.1.1 X.1.2.1 (X.1.2.2.2.2 _ arr_boolean) rfl X.2.1 hP hD hS X.2.2.2.1 (fun cA => by rw [vp_cell_i]; rfl) hn hN hbytes hcells hslots hdg (fun q cA H1 hK1 hP1 hD1 hS1 => ?_)
  have h1 := (hK1.2 4 (cA, .boolean) rfl).2
  have h2 := (X.2.1.2 1 (E.2.1 1, .boolean) rfl).2
  have h3 : cA = E.2.1 1 := Option.some.inj (h1.symm.trans h2)
  subst h3
  exact kk q H1 hP1 hD1 hS1
theorem r_newq {n : Int32} {N t0 idx : Nat} {C : String} (X : Cx p s m args meth c cc nL own E A) (hP : va_P E.1 vwCl w H) (hD : va_D A w) (hS : va_S A s.heap H locs) (hck : Cond.classLink own idx C ∈ lw_g) (hov : va_AO C s) (ht : (tyl E.2.1)[t0]? = some (E.2.1 t0, .object C)) (hn : ¬ n < 0) (hN : n.toNatClampNeg = N) (hbytes : N * 4 ≤ 536870912) (hcells : cells + 1 ≤ R.cells) (hslots : slots + N ≤ R.slots) (hdg : decode cc pc = .ok (.anewarray idx, 3))
    (kk : ∀ (q : Nat) (H1 : Heap), va_P E.1 vwCl (w ++ [(q, .inl (E.2.1 t0, N, .inr (.inr (.inr (.inr (fun _ => none))))))]) H1 → va_D A (w ++ [(q, .inl (E.2.1 t0, N, .inr (.inr (.inr (.inr (fun _ => none))))))]) → va_S A s.heap H1 locs → W p l e R s m args below meth c H1 locs (cells + 1) (slots + N) Q (F0 m (pc + 3) ls (.ref q :: rest))) : W p l e R s m args below meth c H locs cells slots Q (F0 m pc ls (.int n :: rest)) := by
  refine va_newq X.1.1 X.1.2.1 X.1.2.2.2.1 (X.1.2.2.2.2 _ hck) hov X.2.1 hP hD hS X.2.2.2.1 hn hN hbytes hcells hslots hdg (fun q cA H1 hK1 hP1 hD1 hS1 => ?_)
  obtain ⟨_, _, _, _, _, h1⟩ := (hK1.2 4 (cA, .object C) rfl).2
  obtain ⟨_, _, _, _, _, h2⟩ := (X.2.1.2 t0 (E.2.1 t0, .object C) ht).2
  have h3 : cA = E.2.1 t0 := Option.some.inj (h1.symm.trans h2)
  subst h3
  exact kk q H1 hP1 hD1 hS1
theorem r_putF {C : String} {T : u_T} {N ci index : Nat} (X : Cx p s m args meth c cc nL own E A) (hin2 : meth.name = "<init>") (hP : va_P E.1 vwCl w H) (hD : va_D A w) (hS : va_S A s.heap H locs) (q0 : Nat) {fs : List Value} (he : w[q0]? = some (a, .inr (ci, fs))) (hc : vwCl[ci]? = some (C, T, N)) (hin : ∀ w ∈ u_ws C T N, w ∈ lw_g) (ty0 : Nat → FieldType) (hty : ∀ k, k < N → parseFieldDescriptor (T k).2.2.1 = some (ty0 k)) (hnm : ∀ a, a < N → ∀ b, b < N → a ≠ b → (T a).2.1 ≠ (T b).2.1) (k : Nat) (hk : k < N) (hlink : Cond.fieldLink own index (T k).1 (T k).2.1 (T k).2.2.1 ∈ lw_g) (hfin : (T k).2.2.2 = true) (hdecl : (T k).1 = own) {v : Nat} (hn : narrow (ty0 k) (.ref v) = .ref v) (hfit : fits (ty0 k) (.ref v) = true) (hl : k < fs.length) (hw : w.set q0 (a, .inr (ci, fs.set k (.ref v))) = w')
    (hdg : decode cc pc = .ok (.putfield index, 3)) (kk : ∀ (H1 : Heap) (locs1 : List Loc), va_P E.1 vwCl w' H1 → va_D A w' → va_S A s.heap H1 locs1 → W p l e R s m args below meth c H1 locs1 cells slots Q (F0 m (pc + 3) ls rest)) : W p l e R s m args below meth c H locs cells slots Q (F0 m pc ls (.ref v :: .ref a :: rest)) := by
  subst hw
  exact va_putF (D := E.1) (ci := ci) (v := .ref v) (ty := ty0 k) (C := C) (T := T) (N := N) X.1.1 X.1.2.1 X.1.2.2.2.2 hin ty0 hty hnm X.1.2.2.2.1 X.2.1 hP hD hS q0 he hc k hk (X.1.2.2.2.2 _ hlink) (fun _ h9 => h9) hfin hin2 hdecl (hty k hk) hn hfit hl hdg kk
theorem r_astq (X : Cx p s m args meth c cc nL own E A) (hP : va_P E.1 vwCl w H) (hD : va_D A w) (hS : va_S A s.heap H locs) (q0 t0 qk ci : Nat) {r : vw_C} {n v : Nat} {vs : List Value} {f : Nat → Option Nat} (ha : w[q0]? = some (a, .inl (E.2.1 t0, n, .inr (.inr (.inr (.inr f)))))) (ht : (tyl E.2.1)[t0]? = some (E.2.1 t0, .object r.1)) (hv : w[qk]? = some (v, .inr (ci, vs))) (hc : vwCl[ci]? = some r) {i : Int32} (hin : vp_in i n) (hw : w.set q0 (a, .inl (E.2.1 t0, n, .inr (.inr (.inr (.inr (va_up f i.toNatClampNeg (some v))))))) = w') (hdg : decode cc pc = .ok (.aastore, 1))
    (kk : ∀ (H1 : Heap) (locs1 : List Loc), va_P E.1 vwCl w' H1 → va_D A w' → va_S A s.heap H1 locs1 → W p l e R s m args below meth c H1 locs1 cells slots Q (F0 m (pc + 1) ls rest)) : W p l e R s m args below meth c H locs cells slots Q (F0 m pc ls (.ref v :: .int i :: .ref a :: rest)) := by
  subst hw
  exact va_astq X.1.1 X.1.2.1 X.2.1 hP hD hS q0 t0 qk ci ha ht hv hc hin hdg kk
/-- new, dup, the constructor -/
theorem r_newI {ci N idx idx2 mc ms mL : Nat} {C : String} {T : u_T} {fs : List Value} {y : MethodName} {bytes : ByteArray} {rm : Room} {wf : (Nat → Nat) → va_W} (X : Cx p s m args meth c cc nL own E A) (hsz : ls.size = nL) (hP : va_P E.1 vwCl w H) (hD : va_D A w) (hS : va_S A s.heap H locs)
    (hc : vwCl[ci]? = some (C, T, N)) (hin : ∀ w ∈ u_ws C T N, w ∈ lw_g) (ty0 : Nat → FieldType) (hty : ∀ k, k < N → parseFieldDescriptor (T k).2.2.1 = some (ty0 k)) (hck : Cond.classLink own idx C ∈ lw_g) (hins : Cond.instantiable C N ∈ lw_g) (hini : Cond.initialized y.cls ∈ lw_g) (hyc : y.cls = C) (hfs : ∀ j, j < N → defaultValue (ty0 j) = vp_V fs j)
    (hM : MtN l y bytes mL rm E ci fs mc ms wf) (hcd : Cond.code y bytes mL none ∈ lw_g) (hl : Cond.methodLink own idx2 y ∈ lw_g) (him : Cond.instanceMethod y ∈ lw_g) (hyn : y.name = "<init>") (hd : y.cls ≠ "java/lang/invoke/MethodHandle" ∧ y.cls ≠ "java/lang/invoke/VarHandle" ∧ (parseMethodDescriptor y.desc).map (fun d => d.parameters.length) = some 0) (hrm : rm.cells = mc ∧ rm.slots = ms) (hR : rm.frames + 1 ≤ R.frames ∧ 8 + (mL + 11) + rm.locals ≤ R.locals)
    (hcells : cells + 1 + mc ≤ R.cells) (hslots : slots + N + ms ≤ R.slots) (hW : ((.ref 0 :: rest).map fun v => v.category).sum ≤ 8) (d1 : decode cc pc = .ok (.new idx, 3)) (d2 : decode cc (pc + 3) = .ok (.dup, 1)) (d3 : decode cc (pc + 3 + 1) = .ok (.invokespecial idx2, 3))
    (kk : ∀ (u : Nat → Nat) (H1 : Heap) (locs1 : List Loc), va_P E.1 vwCl (w ++ wf u) H1 → va_D A (w ++ wf u) → va_S A s.heap H1 locs1 → W p l e R s m args below meth c H1 locs1 (cells + 1 + mc) (slots + N + ms) Q (F0 m (pc + 3 + 1 + 3) ls (.ref (u 0) :: rest))) : W p l e R s m args below meth c H locs cells slots Q (F0 m pc ls rest) := by
  refine va_new (D := E.1) (ci := ci) (fs := fs) (C := C) (T := T) (N := N) X.1.1 X.1.2.1 X.1.2.2.2.2 hin ty0 hty X.1.2.2.2.1 (X.1.2.2.2.2 _ hck) (X.1.2.2.2.2 _ hins) (X.1.2.2.2.2 _ (hyc ▸ hini)) X.2.1 hP hD hS X.2.2.2.1 hc hfs (by omega) (by omega) d1 (fun q H1 hP1 hD1 hS1 => ?_)
  refine lv_dup X.1.1 X.1.2.1 d2 rfl ?_
  have hC : [w.length].map (fun i => (w ++ [(q, (.inr (ci, fs) : va_E))])[i]?) = [(q, (.inr (ci, fs) : va_E))].map some := by simp
  have hF := va_free (wc := [(q, .inr (ci, fs))]) hD1 hS1 X.2.2.2.1 [w.length] hC
  refine va_callv (va_runI (As := []) (rest := .ref q :: rest) X.1 (hM q H1.size) (cwI 0 X.1.2.2.2.2 (gd_wl (pre := []) (fun _ h => by cases h) hcd) rfl hrm.1 hrm.2 (X.1.2.2.2.2 _ hini) (X.1.2.2.2.2 _ hl) (X.1.2.2.2.2 _ him) hyn hd hR) ⟨preW_blind _ _ _ _, fun U hU hW => ⟨rfl, preW_of hP1 hD1 hS1 X.2.1 X.2.2.1 X.2.2.2.1 hC rfl U hU hW⟩⟩ rfl rfl hsz rfl (lv_room hW) d3 ⟨hcells, hslots⟩) hS1 (fun q _ h => hF q h) hF (fun u t H2 locs2 ht hvm hw hB hz1 hk1 hS2 => ?_)
  obtain ⟨hP2, hD2⟩ := hB
  rw [ht] at hP2
  have vo : ∀ (k : Nat) (x : Nat × va_E), w[k]? = some x → x.1 < H1.size ∧ ¬ va_A [(q, .inr (ci, fs))] H1.size x.1 := by
    intro k x hx
    have hlt := (List.getElem?_eq_some_iff.mp hx).1
    exact vout hP1 hD1 hC (k := k) (by rw [List.getElem?_append_left hlt]; exact hx) (by simp; omega)
  have hP3 : va_P E.1 vwCl (w ++ wf u) H2 := va_P.app (fun k x hx => by
    have hlt := (List.getElem?_eq_some_iff.mp hx).1
    exact (hP1 k x (by rw [List.getElem?_append_left hlt]; exact hx)).kept (hk1 x.1 (vo k x hx).1 (vo k x hx).2)) hP2
  have hD3 : va_D A (w ++ wf u) := va_D.app hD (hD2.weaken (fun _ x _ h => hF x.1 h)) (fun i j x z hx hz hxz => (vo i x hx).2 (by rw [hxz]; exact hD2.2 j z hz))
  have hk := kk u H2 locs2 hP3 hD3 hS2
  rw [hw] at hk
  exact hk
theorem r_nret {h0 : Nat} {wf : (Nat → Nat) → va_W} {u : Nat → Nat} (X : Cx p s m args meth c cc nL own E A) (hr : meth.sig.returnType = none) (hu : u 0 = h0) (hP : va_P E.1 vwCl w H) (hD : va_D A w) (hS : va_S A s.heap H locs) (hw : w = wf u) (hdg : decode cc pc = .ok (.return_, 1)) : W p l e R s m args below meth c H locs cells slots (MQ below (va_Qv (fun u : Nat → Nat => u 0 = h0) (fun u t => va_P E.1 vwCl (wf u) t.heap ∧ va_D A (wf u)) A) args s cells slots A) (F0 m pc ls []) := by
  subst hw
  exact W.vret X.1.1 X.1.2.1 hr (fun t ht hW => ⟨⟨u, rfl, hu, by rw [ht]; exact hP, hD⟩, hS.F ht⟩) hS.2.2 hdg X.2.2.2.2
end CTOR
theorem vP_perm {D : va_G} {cl : List vw_C} {ws ws' : va_W} {H : Heap} (h : ws.Perm ws') (hP : va_P D cl ws H) : va_P D cl ws' H := by
  intro k q hk
  obtain ⟨i, hi⟩ := List.getElem?_of_mem (h.mem_iff.mpr (List.mem_of_getElem? hk))
  exact hP i q hi
theorem vD_nodup {A : Nat → Prop} {ws : va_W} (h : va_D A ws) : (ws.map Prod.fst).Pairwise (fun x y => x ≠ y) := by
  rw [List.pairwise_iff_getElem]
  intro i j hi hj hij he
  have hi' : i < ws.length := by simpa using hi
  have hj' : j < ws.length := by simpa using hj
  rw [List.getElem_map, List.getElem_map] at he
  have := h.1 i j ws[i] ws[j] (List.getElem?_eq_getElem hi') (List.getElem?_eq_getElem hj') he
  omega
theorem vD_perm {A : Nat → Prop} {ws ws' : va_W} (h : ws.Perm ws') (hD : va_D A ws) : va_D A ws' := by
  have hn : (ws'.map Prod.fst).Pairwise (fun x y => x ≠ y) := ((h.map Prod.fst).pairwise_iff (fun hxy => Ne.symm hxy)).mp (vD_nodup hD)
  rw [List.pairwise_iff_getElem] at hn
  have key : ∀ (i j : Nat) (p q : Nat × va_E), i < j → ws'[i]? = some p → ws'[j]? = some q → p.1 ≠ q.1 := by
    intro i j p q g hi hj
    obtain ⟨hi', ei⟩ := List.getElem?_eq_some_iff.mp hi
    obtain ⟨hj', ej⟩ := List.getElem?_eq_some_iff.mp hj
    have := hn i j (by simpa using hi') (by simpa using hj') g
    rw [List.getElem_map, List.getElem_map, ei, ej] at this
    exact this
  refine ⟨fun i j p q hi hj e => ?_, fun k q hk => ?_⟩
  · rcases Nat.lt_trichotomy i j with g | g | g
    · exact absurd e (key i j p q g hi hj)
    · exact g
    · exact absurd e.symm (key j i q p g hj hi)
  · obtain ⟨i, hi⟩ := List.getElem?_of_mem (h.mem_iff.mpr (List.mem_of_getElem? hk))
    exact hD.2 i q hi
theorem sw_perm {α : Type} (a b c d : List α) : (a ++ (b ++ (c ++ d))).Perm (c ++ (d ++ (a ++ b))) := by
  have h := List.perm_append_comm (l₁ := a ++ b) (l₂ := c ++ d)
  simpa only [List.append_assoc] using h
