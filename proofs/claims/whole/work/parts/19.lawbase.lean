/-! THE CLAIM OUT OF ONE WALK OF THE LAW'S BODY. Your part is whole_start (and what it stands on); all else here is the same for every law, but numbers. -/
def R_law : String := "FoldedMapLaw"
def lw_P (b : Addr) (xs : List Int32) (args : Array Value) (s : State) : Prop := args = #[.ref b] ∧ s.IntsAt b xs ∧ xs.length ≤ 2560 ∧ (Jvm.Cond.and given_1 narrow_1).before args s = true
def lw_Q (_ : Array Value) (s : State) (o : Outcome) (t : State) : Prop := o = .returned (some (.int 1)) ∧ Framed s o t [] 600000 7302250
def lw_Z (below : List Frame) (a : Array Value) (s : State) : State → Prop := fun t => ∃ o, t.status = .running ∧ Ended t below o ∧ lw_Q a s o t
/-- the law's own end, with 1 on the stack, nothing written that was there before, its room as the claim has it -/
theorem lw_ret {p : Program} {l : Launch} {e : Env} {s : State} {m : MethodId} {below : List Frame} {meth : Method} {c : Code} {b : Nat} (hx : p.tables.exec = Jvm.exec) (hb : c.code = code) (hr : meth.sig.returnType = ret) (hlocks : meth.locks = false) {pc : Nat} {H : Heap} {ls : Array Slot} (hdg : decode code pc = .ok (.ireturn, 1)) : W p l e room_1 s m #[Value.ref b] below meth c H [] 600000 7302250 (lw_Z below #[Value.ref b] s) (F0 m pc ls [.int 1]) := by
  intro T hT X
  obtain ⟨fs, hret, hrun, hended, hW, hframe⟩ := X.leave (v := some (.int 1)) (hlocks := hlocks) (fun h => by rw [hr] at h; cases h)
  have hmeth' : T.vm.method? m = some meth := X.method'
  refine ⟨T.setFrames fs, ?_, .returned (some (.int 1)), hrun, hended, rfl, ⟨_, rfl⟩, hW, hframe⟩
  jvm_step X.here [X.here.top, hx, hb, hdg, hmeth', hr, ret, narrow_b1]
  (try refine ⟨rfl, ?_⟩); (try refine ⟨rfl, ?_⟩)
  first | (intro acts; rw [hret _ acts rfl rfl rfl]) | rw [hret _ _ rfl rfl rfl]
  exact Steps.refl _
/-- what holds at the law's entry: the machine, the code, the tables' words (any of lw_tbl by 'hts w (by decide +kernel)'), the script of L ints xs at the cell b, what the Statement gives of the start (any of its parts by flat_of_before) -/
def lw_At (p : Program) (s : State) (m : MethodId) (meth : Method) (c : Code) (b L : Nat) (xs : Nat → Int32) : Prop :=
  p.tables.exec = Jvm.exec ∧ c.code = code ∧ meth.sig.returnType = ret ∧ c.maxLocals = 4 ∧ s.vm.findClass R_law = some m.cls ∧ (∀ w ∈ lw_tbl, w.before #[Value.ref b] s = true) ∧ va_X b L xs s s.heap ∧ b < s.heap.size ∧ meth.locks = false ∧ (Jvm.Cond.and given_1 narrow_1).before #[Value.ref b] s = true
def LS_type (Rel : Sg → Int64 → Sg → Int64 → Prop) : Prop := ∀ (σ : Sg) (tr : Int64) (μ : Sg) (tm : Int64), Rel σ tr μ tm → ∀ (p1 : Int64) (p2 : Int32), ∃ (o1 : Int32 × Sg) (o2 : Int32 × Sg), f_X8_type σ tr p1 p2 = some o1 ∧ f_X9_type μ tm p1 p2 = some o2 ∧ o1.1 = o2.1 ∧ Rel o1.2 tr o2.2 tm
def LS_clear (Rel : Sg → Int64 → Sg → Int64 → Prop) : Prop := ∀ (σ : Sg) (tr : Int64) (μ : Sg) (tm : Int64), Rel σ tr μ tm → ∃ (o1 : Int32 × Sg) (o2 : Int32 × Sg), f_X8_clear σ tr = some o1 ∧ f_X9_clear μ tm = some o2 ∧ o1.1 = o2.1 ∧ Rel o1.2 tr o2.2 tm
def LS_map (Rel : Sg → Int64 → Sg → Int64 → Prop) : Prop := ∀ (σ : Sg) (tr : Int64) (μ : Sg) (tm : Int64), Rel σ tr μ tm → ∃ (o1 : Int32 × Sg) (o2 : Int32 × Sg), f_X8_map σ tr = some o1 ∧ f_X9_map μ tm = some o2 ∧ o1.1 = o2.1 ∧ Rel o1.2 tr o2.2 tm
def LS_cell (Rel : Sg → Int64 → Sg → Int64 → Prop) : Prop := ∀ (σ : Sg) (tr : Int64) (μ : Sg) (tm : Int64), Rel σ tr μ tm → ∀ (p1 : Int32) (p2 : Int32), ∃ (o1 : Int32) (o2 : Int32 × Sg), f_X8_cell σ tr p1 p2 = some o1 ∧ f_X9_cell μ tm p1 p2 = some o2 ∧ o1 = o2.1 ∧ Rel σ tr o2.2 tm
def LS_at (Rel : Sg → Int64 → Sg → Int64 → Prop) : Prop := ∀ (σ : Sg) (tr : Int64) (μ : Sg) (tm : Int64), Rel σ tr μ tm → ∀ (p1 : Int32) (p2 : Int32) (p3 : Int32), ∃ (o1 : Int32) (o2 : Int32 × Sg), f_X8_at σ tr p1 p2 p3 = some o1 ∧ f_X9_at μ tm p1 p2 p3 = some o2 ∧ o1 = o2.1 ∧ Rel σ tr o2.2 tm
def LS_fold (Rel : Sg → Int64 → Sg → Int64 → Prop) : Prop := ∀ (σ : Sg) (tr : Int64) (μ : Sg) (tm : Int64), Rel σ tr μ tm → ∀ (p1 : Int32) (p2 : Int32) (p3 : Int32) (p4 : Int32), ∃ (o1 : Int32 × Sg) (o2 : Int32 × Sg), f_X8_fold σ tr p1 p2 p3 p4 = some o1 ∧ f_X9_fold μ tm p1 p2 p3 p4 = some o2 ∧ o1.1 = o2.1 ∧ Rel o1.2 tr o2.2 tm
def LS_undo (Rel : Sg → Int64 → Sg → Int64 → Prop) : Prop := ∀ (σ : Sg) (tr : Int64) (μ : Sg) (tm : Int64), Rel σ tr μ tm → ∃ (o1 : Int32 × Sg) (o2 : Int32 × Sg), f_X8_undo σ tr = some o1 ∧ f_X9_undo μ tm = some o2 ∧ o1.1 = o2.1 ∧ Rel o1.2 tr o2.2 tm
def LS_day (Rel : Sg → Int64 → Sg → Int64 → Prop) : Prop := ∀ (σ : Sg) (tr : Int64) (μ : Sg) (tm : Int64), Rel σ tr μ tm → ∃ (o1 : Int32 × Sg) (o2 : Int32 × Sg), f_X8_day σ tr = some o1 ∧ f_X9_day μ tm = some o2 ∧ o1.1 = o2.1 ∧ Rel o1.2 tr o2.2 tm
def LS_bent (Rel : Sg → Int64 → Sg → Int64 → Prop) : Prop := ∀ (σ : Sg) (tr : Int64) (μ : Sg) (tm : Int64), Rel σ tr μ tm → ∀ (p1 : Int32) (p2 : Int32), ∃ (o1 : Int32) (o2 : Int32), f_X8_bent σ tr p1 p2 = some o1 ∧ f_X9_bent μ tm p1 p2 = some o2 ∧ o1 = o2 ∧ Rel σ tr μ tm
def LS_touch (Rel : Sg → Int64 → Sg → Int64 → Prop) : Prop := ∀ (σ : Sg) (tr : Int64) (μ : Sg) (tm : Int64), Rel σ tr μ tm → ∀ (p1 : Int32) (p2 : Int32), ∃ (o1 : Int32) (o2 : Int32 × Sg), f_X8_touch σ tr p1 p2 = some o1 ∧ f_X9_touch μ tm p1 p2 = some o2 ∧ o1 = o2.1 ∧ Rel σ tr o2.2 tm
def LS_packet (Rel : Sg → Int64 → Sg → Int64 → Prop) : Prop := ∀ (σ : Sg) (tr : Int64) (μ : Sg) (tm : Int64), Rel σ tr μ tm → ∀ (p1 : Int32), ∃ (o1 : Int32) (o2 : Int32 × Sg), f_X8_packet σ tr p1 = some o1 ∧ f_X9_packet μ tm p1 = some o2 ∧ o1 = o2.1 ∧ Rel σ tr o2.2 tm
def LS_reach (Rel : Sg → Int64 → Sg → Int64 → Prop) : Prop := ∀ (σ : Sg) (tr : Int64) (μ : Sg) (tm : Int64), Rel σ tr μ tm → ∀ (p1 : Int32) (p2 : Int32) (p3 : Int32), ∃ (o1 : Int32 × Sg) (o2 : Int32 × Sg), f_X8_reach σ tr p1 p2 p3 = some o1 ∧ f_X9_reach μ tm p1 p2 p3 = some o2 ∧ o1.1 = o2.1 ∧ Rel o1.2 tr o2.2 tm
def LS_serves (Rel : Sg → Int64 → Sg → Int64 → Prop) : Prop := ∀ (σ : Sg) (tr : Int64) (μ : Sg) (tm : Int64), Rel σ tr μ tm → ∀ (p1 : Int32) (p2 : Int32), ∃ (o1 : Int32 × Sg) (o2 : Int32 × Sg), f_X8_serves σ tr p1 p2 = some o1 ∧ f_X9_serves μ tm p1 p2 = some o2 ∧ o1.1 = o2.1 ∧ Rel o1.2 tr o2.2 tm
def LS_saw (Rel : Sg → Int64 → Sg → Int64 → Prop) : Prop := ∀ (σ : Sg) (tr : Int64) (μ : Sg) (tm : Int64), Rel σ tr μ tm → ∀ (p1 : Int32) (p2 : Int32), ∃ (o1 : Int32 × Sg) (o2 : Int32 × Sg), f_X8_saw σ tr p1 p2 = some o1 ∧ f_X9_saw μ tm p1 p2 = some o2 ∧ o1.1 = o2.1 ∧ Rel o1.2 tr o2.2 tm
def LS_forget (Rel : Sg → Int64 → Sg → Int64 → Prop) : Prop := ∀ (σ : Sg) (tr : Int64) (μ : Sg) (tm : Int64), Rel σ tr μ tm → ∃ (o1 : Int32 × Sg) (o2 : Int32 × Sg), f_X8_forget σ tr = some o1 ∧ f_X9_forget μ tm = some o2 ∧ o1.1 = o2.1 ∧ Rel o1.2 tr o2.2 tm
def LS_fits (Rel : Sg → Int64 → Sg → Int64 → Prop) : Prop := ∀ (σ : Sg) (tr : Int64) (μ : Sg) (tm : Int64), Rel σ tr μ tm → ∀ (p1 : Int32), ∃ (o1 : Int32 × Sg) (o2 : Int32 × Sg), f_X8_fits σ tr p1 = some o1 ∧ f_X9_fits μ tm p1 = some o2 ∧ o1.1 = o2.1 ∧ Rel o1.2 tr o2.2 tm
def LS_rate (Rel : Sg → Int64 → Sg → Int64 → Prop) : Prop := ∀ (σ : Sg) (tr : Int64) (μ : Sg) (tm : Int64), Rel σ tr μ tm → ∀ (p1 : Int32) (p2 : Int32), ∃ (o1 : Int32 × Int64) (o2 : Int32 × Sg × Int64), f_X8_rate σ tr p1 p2 = some o1 ∧ f_X9_rate μ tm p1 p2 = some o2 ∧ o1.1 = o2.1 ∧ Rel σ o1.2 o2.2.1 o2.2.2
def LS_keep (Rel : Sg → Int64 → Sg → Int64 → Prop) : Prop := ∀ (σ : Sg) (tr : Int64) (μ : Sg) (tm : Int64), Rel σ tr μ tm → ∀ (p1 : Int32), ∃ (o1 : Int32 × Sg) (o2 : Int32 × Sg), f_X8_keep σ tr p1 = some o1 ∧ f_X9_keep μ tm p1 = some o2 ∧ o1.1 = o2.1 ∧ Rel o1.2 tr o2.2 tm
def LS_back (Rel : Sg → Int64 → Sg → Int64 → Prop) : Prop := ∀ (σ : Sg) (tr : Int64) (μ : Sg) (tm : Int64), Rel σ tr μ tm → ∀ (p1 : Int32), ∃ (o1 : Int32 × Sg) (o2 : Int32 × Sg), f_X8_back σ tr p1 = some o1 ∧ f_X9_back μ tm p1 = some o2 ∧ o1.1 = o2.1 ∧ Rel o1.2 tr o2.2 tm
def LS_count (Rel : Sg → Int64 → Sg → Int64 → Prop) : Prop := ∀ (σ : Sg) (tr : Int64) (μ : Sg) (tm : Int64), Rel σ tr μ tm → ∀ (p1 : Int32), ∃ (o1 : Int32) (o2 : Int32), f_X8_count σ tr p1 = some o1 ∧ f_X9_count μ tm p1 = some o2 ∧ o1 = o2 ∧ Rel σ tr μ tm
def LS_trace (Rel : Sg → Int64 → Sg → Int64 → Prop) : Prop := ∀ (σ : Sg) (tr : Int64) (μ : Sg) (tm : Int64), Rel σ tr μ tm → ∃ (o1 : Int64) (o2 : Int64), f_X8_trace σ tr = some o1 ∧ f_X9_trace μ tm = some o2 ∧ o1 = o2 ∧ Rel σ tr μ tm
def LawSteps (Rel : Sg → Int64 → Sg → Int64 → Prop) : Prop := LS_type Rel ∧ LS_clear Rel ∧ LS_map Rel ∧ LS_cell Rel ∧ LS_at Rel ∧ LS_fold Rel ∧ LS_undo Rel ∧ LS_day Rel ∧ LS_bent Rel ∧ LS_touch Rel ∧ LS_packet Rel ∧ LS_reach Rel ∧ LS_serves Rel ∧ LS_saw Rel ∧ LS_forget Rel ∧ LS_fits Rel ∧ LS_rate Rel ∧ LS_keep Rel ∧ LS_back Rel ∧ LS_count Rel ∧ LS_trace Rel
def LawInit (Rel : Sg → Int64 → Sg → Int64 → Prop) : Prop := ∃ σ μ : Sg, f_X8_init = some σ ∧ f_X9_init = some μ ∧ Rel σ 0 μ 0
theorem rngL {w1 w2 : va_W} {n : Nat} (h : w1.length = n) : (List.range n).map (fun i => (w1 ++ w2)[i]?) = w1.map some := by
  subst h
  apply List.ext_getElem?
  intro k
  rw [List.getElem?_map, List.getElem?_map]
  rcases Nat.lt_or_ge k w1.length with g | g
  · rw [List.getElem?_range g, List.getElem?_eq_getElem g]
    simp [List.getElem?_append_left g]
  · rw [List.getElem?_eq_none (by simpa using g), List.getElem?_eq_none g]
    rfl
theorem rngR {w1 w2 : va_W} {n1 n2 : Nat} (h1 : w1.length = n1) (h2 : w2.length = n2) : (List.range' n1 n2).map (fun i => (w1 ++ w2)[i]?) = w2.map some := by
  subst h1; subst h2
  apply List.ext_getElem?
  intro k
  rw [List.getElem?_map, List.getElem?_map]
  rcases Nat.lt_or_ge k w2.length with g | g
  · rw [List.getElem?_range' g, List.getElem?_eq_getElem g]
    simp [List.getElem?_append_right]
  · rw [List.getElem?_eq_none (by simpa using g), List.getElem?_eq_none g]
    rfl
theorem putL {w1 w2 w1' : va_W} {n : Nat} (h : w1.length = n) (hadr : w1'.map Prod.fst = w1.map Prod.fst) : PutOk (w1 ++ w2) (List.range n) w1 w1' w1' (w1' ++ w2) 0 n := by
  subst h
  have hl : w1'.length = w1.length := by have e := congrArg List.length hadr; simpa using e
  refine ⟨?_, by simp, hl, by simp, by simp, by simp [hadr]⟩
  rw [List.range_eq_range', List.take_of_length_le (by simp)]
theorem putR {w1 w2 w2' : va_W} {n1 n2 : Nat} (h1 : w1.length = n1) (h2 : w2.length = n2) (hadr : w2'.map Prod.fst = w2.map Prod.fst) : PutOk (w1 ++ w2) (List.range' n1 n2) w2 w2' w2' (w1 ++ w2') n1 n2 := by
  subst h1; subst h2
  have hl : w2'.length = w2.length := by have e := congrArg List.length hadr; simpa using e
  refine ⟨?_, by simp, hl, by simp, ?_, by simp [hadr]⟩
  · rw [List.take_of_length_le (by simp)]
  · rw [List.take_left, List.drop_of_length_le (by simp)]
    simp
theorem nd65 : va_nd (List.range 65) = true := by decide +kernel
theorem nd13 : va_nd (List.range' 65 13) = true := by decide +kernel
theorem lg_self (x : Int64) : lg_cmp x x = 0 := by
  unfold lg_cmp
  simp [Int64.lt_irrefl]
theorem law_in {L k : Nat} (hL : L ≤ 2560) (hk : k ≤ L) (h : ¬ (Int32.ofNat L - 5) < nI k) : k + 5 ≤ L := by
  have h1 : (Int32.ofNat L - 5).toInt = (L : Int) - 5 := pk_sub_toInt (a := L) (b := 5) (by omega) (by omega)
  have h2 : (nI k).toInt = (k : Int) := nI_toInt (by omega)
  rw [Int32.lt_iff_toInt_lt, h1, h2] at h
  omega
theorem law_ix {L k j : Nat} {x : Int32} (hL : L ≤ 2560) (h : k + 5 ≤ L) (hj : j < 5) (hx : x = nI (k + j)) : vp_in x L := by
  rw [hx]
  exact vp_in_nI (by omega) (by omega)
section LCALL
variable {p : Program} {l : Launch} {e : Env} {R : Room} {s : State} {m : MethodId} {args : Array Value} {below : List Frame} {meth : Method} {c : Code} {H : Heap} {locs : List Loc} {cells slots : Nat} {Q : State → Prop}
variable {cc : ByteArray} {pc nL : Nat} {ls : Array Slot} {rest st As : List Value} {A : Nat → Prop} {E : Ev} {wb wc : va_W} {own : String}
variable {y : MethodName} {bytes : ByteArray} {maxL n index b : Nat} {ret : Option FieldType} {rm : Room}
theorem cV_roL {r : Int64} {is : List Nat} {ci : Nat} {fs : List Value} {q : vw_C} (X : Cx p s m args meth c cc nL own E A) (hM : MtL l y (wl y bytes maxL ret) rm E (.ref b :: As) wc r wc) (pk : PkV q.1 y bytes maxL ret n) (hl : Cond.methodLink own index y ∈ lw_g) (hrm : rm.cells = 0 ∧ rm.slots = 0) (hR : rm.frames + 1 ≤ R.frames ∧ 8 + (maxL + 11) + rm.locals ≤ R.locals) (hP : va_P E.1 vwCl wb H) (hD : va_D A wb) (hS : va_S A s.heap H locs)
    (hC : is.map (fun i => wb[i]?) = wc.map some) (hnd : va_nd is = true) (hrc : wc[0]? = some (b, .inr (ci, fs))) (hcl : vwCl[ci]? = some q)
    (hn : As.length = n) (hsize : ls.size = nL) (hstack : st = As.reverse ++ .ref b :: rest) (hW : (rest.map fun v => v.category).sum ≤ 8) (hdg : decode cc pc = .ok (.invokevirtual index, 3)) (hf : cells ≤ R.cells ∧ slots ≤ R.slots)
    (kk : ∀ (H1 : Heap) (locs1 : List Loc), va_P E.1 vwCl wb H1 → va_S A s.heap H1 locs1 → W p l e R s m args below meth c H1 locs1 cells slots Q (F0 m (pc + 3) ls (.long r :: rest))) : W p l e R s m args below meth c H locs cells slots Q (F0 m pc ls st) := by
  have hPc : va_P E.1 vwCl wc H := fun k q hk => by obtain ⟨i, -, hi⟩ := vsub_at hC k q hk; exact hP i q hi
  have hF := va_free (wc := wc) hD hS X.2.2.2.1 is hC
  refine va_calll (va_runV (As := As) (rest := rest) X.1 (hM H.size) (pk.cw X.1.2.2.2.2 hl hrm hR) ⟨preW_blind _ _ _ _, va_recv X.2.1 hPc hcl hrc, fun U hU hW => ⟨rfl, preW_of hP hD hS X.2.1 X.2.2.1 X.2.2.2.1 hC hnd U hU hW⟩⟩ rfl hn hsize hstack (lv_room hW) hdg hf) hS (fun q _ h => hF q h) hF (fun r1 u t H1 locs1 ht hvm hw1 hB hz1 hk1 hS1 => ?_)
  subst hw1
  exact kk H1 locs1 (wro_P hP hD hC hk1 (by rw [← ht]; exact hB)) hS1
end LCALL
