/-! A call that throws, and the handler that takes it. -/
theorem tw_us.calling {b : Nat} {s0 U : State} {g : JFrame} {mk : MethodId} {a : Array Value} (h : tw_us b s0 U) : tw_us b s0 (U.calling g mk a) := ⟨h.1, h.2⟩
/-- the search of a table of one entry, whose name was met before or not -/
theorem xw_find {e : Env} {s : State} {g : JFrame} {a : Addr} {meth : Method} {code : Code} {x : ExceptionTableEntry} {ct : ClassId} {cell : Cell} (hm : s.vm.method? g.method = some meth) (hc : meth.code = some code) (htab : code.exceptionTable.toList = [x]) (hx : covers x g.pc = true) (h0 : x.catchType ≠ 0) (hl : s.vm.ClassLinks e.platform g.method.cls x.catchType ct) (hcell : s.heap[a]? = some cell) (hobj : ∀ k, cell.vm ≠ .statics k) (hk1 : ∃ k, s.vm.classes[cell.cls]? = some k) (hk2 : ∃ k, s.vm.classes[ct]? = some k) (hfit : s.vm.assignable cell.cls ct = true) (Q : Handler → Pre) (E : CtlPost) (d : Bool) (acts : List Action) :
    wp (findHandler g a) Q E e d acts s ↔ Q (.found x.handlerPc) d acts (s.setVm (s.vm.noted g.method.cls x.catchType (.cls ct))) := by
  rw [Jvm.W.findHandler_eq hm hc, htab]
  have hin : (decide (x.startPc ≤ g.pc) && decide (g.pc < x.endPc)) = true := hx
  have hal : s.vm.Alike (s.vm.noted g.method.cls x.catchType (.cls ct)) := (Vm.Alike.refl s.vm).noted _ _ _
  obtain ⟨k1, e1⟩ := hk1
  obtain ⟨k2, e2⟩ := hk2
  obtain ⟨k3, e3, -⟩ := hal.2.2 _ _ e1
  obtain ⟨k4, e4, -⟩ := hal.2.2 _ _ e2
  have e5 : (s.vm.noted g.method.cls x.catchType (.cls ct)).assignable cell.cls ct = true := by rw [hal.assignable]; exact hfit
  obtain ⟨r1, r2⟩ := (resolveClass_links e.toSetting hl).op (op := VmOp.resolveClass g.method.cls x.catchType) rfl
  simp [findHandler.go, hin, h0, r1, r2, hcell, hobj, e3, e4, e5, VmOp.dirties, VmOp.acts]
/-- one step from the note of what is thrown to the handler -/
theorem xw_step {p : Program} {e : Env} {T target : State} {g : JFrame} {c : Code} {below : List Frame} {a : Addr} {pc : Nat} {vm' : Vm} (h : At T g.method c below) (hf : ∀ (Q : Handler → Pre) (E : CtlPost) (d : Bool) (acts : List Action), wp (findHandler g a) Q E e d acts ((T.setTop g).pushFrame (.throwing a)) ↔ Q (.found pc) d acts (((T.setTop g).pushFrame (.throwing a)).setVm vm')) (hrest : Steps p.tables e below ((T.setVm vm').setTop { g with pc := pc, stack := [.ref a] }) target) :
    Steps p.tables e below ((T.setTop g).pushFrame (.throwing a)) target := by
  have hgo : ∀ r : List Frame, (stepThrowing e ((T.setTop g).pushFrame (.throwing a)) a (.java g :: r)).1 = (((T.setTop g).pushFrame (.throwing a)).setVm vm').setFrames (.java { g with pc := pc, stack := [.ref a] } :: r) := by
    intro r
    simp only [stepThrowing, searchFrame, vmDo]
    generalize hres : Sem.go _ e false [] ((T.setTop g).pushFrame (.throwing a)) = res
    obtain ⟨as, rfl, -⟩ := Sem.eq_ok_of hres (a := Handler.found pc) (s' := ((T.setTop g).pushFrame (.throwing a)).setVm vm') (acts' := []) (by simp [hf _ _ _ _])
    rfl
  obtain ⟨w1, w2⟩ := h.throwing a
  refine Steps.head w1 w2 ?_
  rw [stepThread_throwing (frames_entered h.top _), hgo]
  obtain ⟨g0, hg0⟩ := Option.isSome_iff_exists.mp h.top
  obtain ⟨r, hr⟩ := State.topJava?_eq_some.mp hg0
  have hr2 : (T.setVm vm').frames = .java g0 :: r := hr
  rw [State.setTop_of_frames _ hr2] at hrest
  have e1 : (((T.setTop g).pushFrame (.throwing a)).setVm vm').setFrames (.java { g with pc := pc, stack := [.ref a] } :: T.frames.tail) = (T.setVm vm').setFrames (.java { g with pc := pc, stack := [.ref a] } :: r) := by
    rw [hr, List.tail_cons, State.pushFrame, State.setTop_of_frames _ hr]
    show (((T.setVm vm').setFrames _).setFrames _).setFrames _ = _
    rw [State.setFrames_setFrames, State.setFrames_setFrames]
  rw [e1]
  exact hrest
section CAUGHT
variable {p : Program} {l : Launch} {e : Env} {R : Room} {s : State} {m : MethodId} {args : Array Value} {below : List Frame} {meth : Method} {c : Code} {Q : State → Prop} {cl : List vw_C} {ft : Nat → Nat → Nat} {D : va_G} {cA : Nat → ClassId} {z nL : Nat} {cc : ByteArray} {pc : Nat} {L : tw_L} {f : tw_S} {tys : List (ClassId × FieldType)} {Nm : List tw_N} {Ts : List Cond} {s0 : State} {a0 : Array Value}
theorem tg_caught {y : MethodName} {bytes : ByteArray} {maxL idx q ci nn hpc : Nat} {ret : Option FieldType} {As rest : List tw_A} {rs : List (Option Nat)} {r : vw_C} {H : Heap} {locs : List Loc} {la : Array Slot} {cells slots : Nat} {entry : ExceptionTableEntry} {A : Nat → Prop}
    (hM : MetFree l y (headSpec (Cond.code y bytes maxL ret :: Ts) rmT) (fun v U => tw_Pc cl ft D cA tys Nm s0.heap.size z false (tw_R q :: As) L f v U ∧ tw_us s0.heap.size s0 U) (fun _ _ _ _ _ => True) (fun _ st o t => tw_Qt st o t))
    (hx : p.tables.exec = Jvm.exec) (hb : c.code = cc) (hml : c.maxLocals = nL) (hla : la.size = nL) (hown : s.vm.findClass "TwinArrayLaw" = some m.cls) (hG : ∀ w ∈ Ts, (w.onTables && w.keeps) = true ∨ ∃ t, w = .arrayClass t) (hts : ∀ w ∈ Ts, w.before args s = true) (hw0 : ∀ w ∈ xAt, w.before a0 s0 = true) (hus : tw_us s0.heap.size s0 s)
    (hcode : Cond.code y bytes maxL ret ∈ Ts) (hini : Cond.initialized y.cls ∈ Ts) (hinst : Cond.instanceMethod y ∈ Ts) (hsel : Cond.selects "TwinArray" y y ∈ Ts) (hlink : Cond.methodLink "TwinArrayLaw" idx y ∈ Ts) (hcl : Cond.classLink "TwinArrayLaw" 13 xN ∈ Ts) (hy : y.cls ≠ "java/lang/invoke/MethodHandle" ∧ y.cls ≠ "java/lang/invoke/VarHandle") (hpar : (parseMethodDescriptor y.desc).map (fun d => d.parameters.length) = some As.length)
    (hframes : 7 ≤ R.frames) (hlocals : 8 + (maxL + 11) + 120 ≤ R.locals) (hcells : cells + 1 ≤ R.cells) (hslots : slots + 6 ≤ R.slots) (hK : va_K D cl tys s) (hN : ∀ x ∈ Nm, va_Nw (.methodLinkNest x.1 x.2.1 x.2.2.1 x.2.2.2) s)
    (hq : L[q]? = some (ci, nn, rs)) (h100 : ci < 100) (hc : cl[ci]? = some r) (hC : r.1 = "TwinArray") (hW : tw_W cl ft D cA s0.heap.size false L f H) (hS : va_S A s.heap H locs) (hA : ∀ x, x < s0.heap.size → ¬ A x) (hs0 : s0.heap.size ≤ s.heap.size) (hrest : (rest.map tw_ct).sum ≤ 8) (hd : decode cc pc = .ok (.invokevirtual idx, 3))
    (htab : c.exceptionTable.toList = [entry]) (hcov : covers entry pc = true) (hcat : entry.catchType = 13) (hh : entry.handlerPc = hpc)
    (kk : ∀ (H1 : Heap) (x : Addr), tw_W cl ft D cA s0.heap.size false L f H1 → va_S A s.heap H1 locs → W p l e R s m args below meth c H1 locs (cells + 1) (slots + 6) Q (F0 m hpc la [.ref x])) :
    W p l e R s m args below meth c H locs cells slots Q (F0 m pc la ((As.reverse ++ tw_R q :: rest).map (tw_v s0.heap.size z))) := by
  intro T hT X
  have he : (tw_ws ft cA s0.heap.size L f)[q]? = some (s0.heap.size + q, .inr (ci, tw_fs ft s0.heap.size q (ci, nn, rs) f)) := by
    rw [tw_ws_at hq, tw_e_obj h100]
  obtain ⟨cellB, hcB, hoB, hclB⟩ := va_recv hK hW.1 hc he
  rw [hC] at hclB
  obtain ⟨mk, methM, hnamed, hmethM, hstM, habM⟩ := Cond.instanceMethod_spec (hts _ hinst)
  obtain ⟨methM', cM, hmethM', -, -, -, -, -, -, hsigM⟩ := Cond.code_spec hnamed (hts _ hcode)
  cases hmethM.symm.trans hmethM'
  obtain ⟨c2, r2, m2, q1, q2, q3, q4, kP, hkP, hkPi⟩ := Cond.selects_spec (hts _ hsel)
  cases hclB.symm.trans q1
  cases (State.methodFound?_of_named hnamed hy).symm.trans q2
  cases hnamed.symm.trans q3
  have hselP : selectMethod e.platform s.vm cellB.cls mk = .method mk := by rw [Launch.admits_selectMethod X.admits]; exact q4
  have hlen : (As.map (tw_v s0.heap.size z)).length = methM.sig.parameters.length := by
    rw [List.length_map]
    rw [hsigM] at hpar
    exact (Option.some.inj hpar).symm
  obtain ⟨vm₁, X₁, hstep₁⟩ := X.invokevirtual hx hown (hts _ hlink) hnamed hmethM hstM hkP hkPi hy (a := s0.heap.size + q) (cell := cellB) (by rw [hT]; exact hcB) (fun z h => by rw [h] at hoB; cases hoB) hselP hmethM habM hkP hkPi (g := F0 m pc la ((As.reverse ++ tw_R q :: rest).map (tw_v s0.heap.size z))) rfl (argsL := As.map (tw_v s0.heap.size z)) (rest := rest.map (tw_v s0.heap.size z)) hlen (by show ((As.reverse ++ tw_R q :: rest).map (tw_v s0.heap.size z)) = _; rw [List.map_append, List.map_reverse]; rfl) (by rw [hb]; exact hd)
  have husT : tw_us s0.heap.size s0 (T.setVm vm₁) := ⟨State.WarmedH.trans hus.1 X₁.warmed, fun x hx => by
    show T.heap[x]? = _
    rw [hT, hS.2.1 x (by omega) (hA x hx)]
    exact hus.2 x hx⟩
  have hws : ∀ w ∈ Cond.code y bytes maxL ret :: Ts, ∀ (a' : Array Value) (U : State), s.WarmedH U.vm → w.before a' U = true := by
    intro w hw a' U hWm
    have hw2 : w ∈ Ts := by
      rcases List.mem_cons.mp hw with rfl | h
      · exact hcode
      · exact h
    exact word_at hWm (hG w hw2) (hts w hw2)
  have hAt : At (T.setVm vm₁) m c below := X₁.here
  have hn1 := X₁.named hnamed
  obtain ⟨methY, cY, hmY, hcY, -, hlY, -⟩ := Cond.code_spec hn1 (hws _ List.mem_cons_self args _ X₁.warmed)
  obtain ⟨kY, hkY, -⟩ := className_of_methodNamed hn1
  have hinitY : kY.init = .initialized := Cond.initialized_spec (findClass_of_methodNamed hn1) hkY (hws _ (List.mem_cons_of_mem _ hini) args _ X₁.warmed)
  have happ : (headSpec (Cond.code y bytes maxL ret :: Ts) rmT).appliesLoose y e.platform ((T.setVm vm₁).calling (F0 m pc la (rest.map (tw_v s0.heap.size z))) mk (Value.ref (s0.heap.size + q) :: As.map (tw_v s0.heap.size z)).toArray) = true :=
    Spec.appliesLoose_calling (g := F0 m pc la (rest.map (tw_v s0.heap.size z))) hAt (ig := .invokevirtual idx) (len := 3) (by rw [hb]; exact hd) hn1 hkY hinitY (X₁.room_calling (g := F0 m pc la (rest.map (tw_v s0.heap.size z))) (R' := rmT) (by show la.size = c.maxLocals; rw [hml]; exact hla) hmY hcY hframes (by have h9 := tw_room (b := s0.heap.size) (z := z) (g := F0 m pc la (rest.map (tw_v s0.heap.size z))) (rest := rest) rfl hrest; rw [hlY]; show 2 * _ + ((rest.map (tw_v s0.heap.size z)).map fun v => v.category).sum + (maxL + 11) + 120 ≤ R.locals; omega) hcells hslots) (atoms_intro fun w hw => hws w hw _ _ X₁.warmed)
  obtain ⟨mid, hmid⟩ := hAt.above
  have hfr : ((T.setVm vm₁).setTop (F0 m pc la (rest.map (tw_v s0.heap.size z)))).frames = (.java (F0 m pc la (rest.map (tw_v s0.heap.size z))) :: mid) ++ below := by rw [State.frames_setTop' _ hAt.top, hmid]; rfl
  obtain ⟨o, t, stp, -, hend, x, ce, rfl, w1', w2, w3, w4, w5, w6⟩ := Steps.callFree hM p X₁.admits X₁.cas X₁.clock (acts := []) (m := mk) (args := (Value.ref (s0.heap.size + q) :: As.map (tw_v s0.heap.size z)).toArray) hfr happ ⟨⟨rfl, by show tw_W _ _ _ _ _ _ _ _ T.heap; rw [hT]; exact hW, va_K.moved X₁.warmed.alike hK, fun x hx => va_Nw.warmM X₁.warmed (hN x hx)⟩, husT.calling⟩ trivial
  rw [State.frames_setTop' _ hAt.top, X₁.tail] at hend
  obtain ⟨BU, X', -, hsame, ht⟩ := X₁.outOfThrown (g := F0 m pc la (rest.map (tw_v s0.heap.size z))) rfl (mk := mk) (a := (Value.ref (s0.heap.size + q) :: As.map (tw_v s0.heap.size z)).toArray) hend w1' w2
  have e1 : BU.heap = t.heap := by rw [ht]; exact (throwing_heap BU _ x).symm
  rw [List.append_nil] at X'
  have hcast : (Cond.castable xN xN).before args s = true := hus.words hw0 _ (by decide +kernel)
  obtain ⟨c3, c4, hc3, hc4, hasg⟩ := Cond.castable_spec (show (Cond.castable xN xN).holds args s none s [] = true from hcast)
  have hfc : s.vm.findClass xN = some ce.cls := by
    have h9 : (T.setVm vm₁).vm.findClass xN = some ce.cls := w5
    rw [X₁.warmed.alike.findClass] at h9
    exact h9
  have hcT : c3 = ce.cls := Option.some.inj (hc3.symm.trans hfc)
  have hcT4 : c4 = ce.cls := Option.some.inj (hc4.symm.trans hfc)
  rw [hcT, hcT4] at hasg
  have hpl : e.platform.magicAccessors = ({} : Platform).magicAccessors := by rw [X.admits.platform]
  obtain ⟨c', hc', hcl9⟩ := Cond.classLink_spec hown (show (Cond.classLink "TwinArrayLaw" 13 xN).holds args s none s [] = true from hts _ hcl) e.platform hpl
  have hcc' : c' = ce.cls := Option.some.inj (hc'.symm.trans hfc)
  rw [hcc', ← hcat] at hcl9
  obtain ⟨dk, _, _, kt, hdk, _, _, _, _, hkt, _, hopen⟩ := hcl9.here
  have hW' : s.WarmedH (BU.vm.noted m.cls entry.catchType (.cls ce.cls)) := X'.warmed.noted hdk hopen (State.rightAt_cls hcl9)
  have hal := X'.warmed.alike
  obtain ⟨kt', hkt', -⟩ := hal.2.2 _ _ hkt
  have hfit' : BU.vm.assignable ce.cls ce.cls = true := by rw [hal.assignable]; exact hasg
  have X'' := X'.noted hW'
  have st2 : ∀ target, Steps p.tables e below ((BU.setVm (BU.vm.noted m.cls entry.catchType (.cls ce.cls))).setTop (F0 m hpc la [.ref x])) target → Steps p.tables e below (T.setTop (F0 m pc la ((As.reverse ++ tw_R q :: rest).map (tw_v s0.heap.size z)))) target := by
    intro target h9
    refine hstep₁ _ fun acts => ?_
    rw [doInvoke_state]
    refine stp.trans ?_
    rw [ht]
    refine xw_step (g := F0 m pc la (rest.map (tw_v s0.heap.size z))) (pc := hpc) X'.here (fun Q E d acts => ?_) h9
    rw [← hh]
    exact xw_find (s := (BU.setTop (F0 m pc la (rest.map (tw_v s0.heap.size z)))).pushFrame (.throwing x)) (g := F0 m pc la (rest.map (tw_v s0.heap.size z))) (meth := meth) (code := c) (ct := ce.cls) (cell := ce) X'.method' X'.code htab hcov (by rw [hcat]; decide) (X'.warmed.classLinks hcl9) (by rw [throwing_heap, e1]; exact w3) (fun k h8 => by rw [w4] at h8; cases h8) ⟨kt', hkt'⟩ ⟨kt', hkt'⟩ hfit' Q E d acts
  have hHk : ∀ y : Nat, y < H.size → BU.heap[y]? = H[y]? := by
    intro y hy
    rw [e1]
    cases hc9 : H[y]? with
    | none => exact absurd hy (by have := Array.getElem?_eq_none_iff.mp hc9; omega)
    | some cy =>
      exact State.sameButNew.old_cell w2 (show T.heap[y]? = some cy by rw [hT]; exact hc9)
  have hsz : H.size ≤ BU.heap.size := by
    have h9 : T.heap.size ≤ t.heap.size := w2.2.1
    rw [e1, ← hT]
    exact h9
  have hsz2 : BU.heap.size ≤ H.size + 1 := by
    have h9 : t.heap.size ≤ T.heap.size + 1 := w2.2.2.1
    rw [e1, ← hT]
    exact h9
  have hxx : H.size ≤ x := by
    have h9 : T.heap.size ≤ x := w6
    rw [← hT]
    exact h9
  have hW2 : tw_W cl ft D cA s0.heap.size false L f BU.heap := by
    refine hW.more hsz hHk (fun y cell hy hc9 => ?_)
    have hlt : y < BU.heap.size := (Array.getElem?_eq_some_iff.mp hc9).1
    have hltx : @LT.lt Nat _ x BU.heap.size := by rw [e1]; exact (Array.getElem?_eq_some_iff.mp w3).1
    have hyx : y = x := by omega
    subst hyx
    rw [e1, w3] at hc9
    have h9 : ce = cell := Option.some.inj hc9
    rw [← h9, w4]
    rfl
  obtain ⟨t2, a1, a2⟩ := kk BU.heap x hW2 ⟨Nat.le_trans hS.1 hsz, fun y h1 h2 => (hHk y (Nat.lt_of_lt_of_le h1 hS.1)).trans (hS.2.1 y h1 h2), hS.2.2⟩ (BU.setVm (BU.vm.noted m.cls entry.catchType (.cls ce.cls))) rfl X''
  exact ⟨t2, st2 t2 a1, a2⟩
end CAUGHT
