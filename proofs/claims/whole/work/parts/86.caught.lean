/-! A call that throws, and the handler that takes it. -/
theorem tw_us.calling {b : Nat} {s0 U : State} {g : JFrame} {mk : MethodId} {a : Array Value} (h : tw_us b s0 U) : tw_us b s0 (U.calling g mk a) := ⟨h.1, h.2⟩
section CAUGHT
variable {p : Program} {l : Launch} {e : Env} {R : Room} {s : State} {m : MethodId} {args : Array Value} {below : List Frame} {meth : Method} {c : Code} {Q : State → Prop} {cl : List vw_C} {ft : Nat → Nat → Nat} {D : va_G} {cA : Nat → ClassId} {z nL : Nat} {cc : ByteArray} {pc : Nat} {L : tw_L} {f : tw_S} {tys : List (ClassId × FieldType)} {Nm : List tw_N} {Ts : List Cond} {s0 : State} {a0 : Array Value}
theorem tw_backT {y : MethodName} {bytes : ByteArray} {maxL : Nat} {ret : Option FieldType} {As : List tw_A}
    (hM : MetFree l y (headSpec (Cond.code y bytes maxL ret :: Ts) rmT) (fun v U => tw_Pc cl ft D cA tys Nm s0.heap.size z false As L f v U ∧ tw_us s0.heap.size s0 U) (fun _ _ _ _ _ => True) (fun _ st o t => tw_Qt st o t))
    (hframes : 7 ≤ R.frames) (hlocals : 8 + (maxL + 11) + 120 ≤ R.locals) (hws : ∀ w ∈ Cond.code y bytes maxL ret :: Ts, ∀ (a' : Array Value) (U : State), s.WarmedH U.vm → w.before a' U = true) (hini : Cond.initialized y.cls ∈ Ts) :
    BackT l R p e below s args y 3 8 (fun A a => A.cells + 1 ≤ R.cells ∧ A.slots + 6 ≤ R.slots ∧ tw_Pc cl ft D cA tys Nm s0.heap.size z false As L f a A.U ∧ tw_us s0.heap.size s0 A.U) (fun A a x B => ∃ (g : JFrame) (mk : MethodId) (t : State), B.U.heap = t.heap ∧ tw_Qt (A.U.calling g mk a) (.threw x) t ∧ B.locs = A.locs ++ [] ∧ B.cells = A.cells + 1 ∧ B.slots = A.slots + 6) := by
  refine BackT.of_free (S := headSpec (Cond.code y bytes maxL ret :: Ts) rmT) (P := fun v U => tw_Pc cl ft D cA tys Nm s0.heap.size z false As L f v U ∧ tw_us s0.heap.size s0 U) (K := fun _ _ _ _ _ => True) (Q := fun _ st o t => tw_Qt st o t) (bytes := bytes) (maxL := maxL) (ret := ret) (E := fun _ _ _ _ L k n => L = [] ∧ k = 1 ∧ n = 6) hM hframes hlocals ?_ ?_ (fun _ _ _ _ _ _ _ _ _ => trivial) ?_ ?_
  · intro m meth c A a X hp
    exact ⟨atoms_intro fun w hw => hws w hw _ _ X.warmed, hws _ List.mem_cons_self _ _ X.warmed, hws _ (List.mem_cons_of_mem _ hini) _ _ X.warmed, hp.1, hp.2.1⟩
  · intro m meth c A a g mk X hp
    exact ⟨tw_blind _ _ _ _ hp.2.2.1, hp.2.2.2.calling⟩
  · intro a st o t hq
    obtain ⟨x, ce, rfl, h1, h2, h3⟩ := hq
    exact ⟨[], 1, 6, ⟨⟨x, rfl⟩, h1, h2⟩, rfl, rfl, rfl⟩
  · intro m meth c A a g mk x t L k n X hp hq hF hE
    obtain ⟨rfl, rfl, rfl⟩ := hE
    exact ⟨g, mk, t, rfl, hq, rfl, rfl, rfl⟩
theorem tg_caught {y : MethodName} {bytes : ByteArray} {maxL idx q ci nn hpc : Nat} {ret : Option FieldType} {As rest : List tw_A} {rs : List (Option Nat)} {r : vw_C} {H : Heap} {locs : List Loc} {la : Array Slot} {cells slots : Nat} {entry : ExceptionTableEntry} {A : Nat → Prop}
    (hM : MetFree l y (headSpec (Cond.code y bytes maxL ret :: Ts) rmT) (fun v U => tw_Pc cl ft D cA tys Nm s0.heap.size z false (tw_R q :: As) L f v U ∧ tw_us s0.heap.size s0 U) (fun _ _ _ _ _ => True) (fun _ st o t => tw_Qt st o t))
    (hx : p.tables.exec = Jvm.exec) (hb : c.code = cc) (hml : c.maxLocals = nL) (hla : la.size = nL) (hown : s.vm.findClass "TwinArrayLaw" = some m.cls) (hG : ∀ w ∈ Ts, (w.onTables && w.keeps) = true ∨ ∃ t, w = .arrayClass t) (hts : ∀ w ∈ Ts, w.before args s = true) (hw0 : ∀ w ∈ xAt, w.before a0 s0 = true) (hus : tw_us s0.heap.size s0 s)
    (hcode : Cond.code y bytes maxL ret ∈ Ts) (hini : Cond.initialized y.cls ∈ Ts) (hinst : Cond.instanceMethod y ∈ Ts) (hsel : Cond.selects "TwinArray" y y ∈ Ts) (hlink : Cond.methodLink "TwinArrayLaw" idx y ∈ Ts) (hcl : Cond.classLink "TwinArrayLaw" 13 xN ∈ Ts) (hy : y.cls ≠ "java/lang/invoke/MethodHandle" ∧ y.cls ≠ "java/lang/invoke/VarHandle") (hpar : (parseMethodDescriptor y.desc).map (fun d => d.parameters.length) = some As.length)
    (hframes : 7 ≤ R.frames) (hlocals : 8 + (maxL + 11) + 120 ≤ R.locals) (hcells : cells + 1 ≤ R.cells) (hslots : slots + 6 ≤ R.slots) (hK : va_K D cl tys s) (hN : ∀ x ∈ Nm, va_Nw (.methodLinkNest x.1 x.2.1 x.2.2.1 x.2.2.2) s)
    (hq : L[q]? = some (ci, nn, rs)) (h100 : ci < 100) (hc : cl[ci]? = some r) (hC : r.1 = "TwinArray") (hW : tw_W cl ft D cA s0.heap.size false L f H) (hS : va_S A s.heap H locs) (hA : ∀ x, x < s0.heap.size → ¬ A x) (hs0 : s0.heap.size ≤ s.heap.size) (hrest : (rest.map tw_ct).sum ≤ 8) (hd : decode cc pc = .ok (.invokevirtual idx, 3))
    (htab : c.exceptionTable.toList = [entry]) (hcov : covers entry pc = true) (hcat : entry.catchType = 13) (hh : entry.handlerPc = hpc)
    (kk : ∀ (H1 : Heap) (x : Addr), tw_W cl ft D cA s0.heap.size false L f H1 → va_S A s.heap H1 locs → W p l e R s m args below meth c H1 locs (cells + 1) (slots + 6) Q (F0 m hpc la [.ref x])) :
    W p l e R s m args below meth c H locs cells slots Q (F0 m pc la ((As.reverse ++ tw_R q :: rest).map (tw_v s0.heap.size z))) := by
  intro T hT X
  have he : (tw_ws ft cA s0.heap.size L f)[q]? = some (s0.heap.size + q, .inr (ci, tw_fs ft s0.heap.size q (ci, nn, rs) f)) := by
    rw [tw_ws_at hq, tw_e_obj h100]
  obtain ⟨cellB, hcB, hoB, hclB⟩ := va_recv hK hW.1 hc he
  rw [hC] at hclB
  obtain ⟨mk, methM, hnamed, hmethM, hstM, habM⟩ := Cond.instanceMethod_spec (hts _ hinst)
  obtain ⟨methM', cM, hmethM', -, -, -, -, -, -, hsigM⟩ := Cond.code_spec hnamed (hts _ hcode)
  cases hmethM.symm.trans hmethM'
  obtain ⟨c2, r2, m2, q1, q2, q3, q4, kP, hkP, hkPi⟩ := Cond.selects_spec (hts _ hsel)
  cases hclB.symm.trans q1
  cases (State.methodFound?_of_named hnamed hy).symm.trans q2
  cases hnamed.symm.trans q3
  have hselP : selectMethod e.platform s.vm cellB.cls mk = .method mk := by rw [Launch.admits_selectMethod X.admits]; exact q4
  have hlen : (As.map (tw_v s0.heap.size z)).length = methM.sig.parameters.length := by
    rw [List.length_map]
    rw [hsigM] at hpar
    exact (Option.some.inj hpar).symm
  obtain ⟨vm₁, X₁, hstep₁⟩ := X.invokevirtual hx hown (hts _ hlink) hnamed hmethM hstM hkP hkPi hy (a := s0.heap.size + q) (cell := cellB) (by rw [hT]; exact hcB) (fun z h => by rw [h] at hoB; cases hoB) hselP hmethM habM hkP hkPi (g := F0 m pc la ((As.reverse ++ tw_R q :: rest).map (tw_v s0.heap.size z))) rfl (argsL := As.map (tw_v s0.heap.size z)) (rest := rest.map (tw_v s0.heap.size z)) hlen (by show ((As.reverse ++ tw_R q :: rest).map (tw_v s0.heap.size z)) = _; rw [List.map_append, List.map_reverse]; rfl) (by rw [hb]; exact hd)
  have husT : tw_us s0.heap.size s0 (T.setVm vm₁) := ⟨State.WarmedH.trans hus.1 X₁.warmed, fun x hx => by
    show T.heap[x]? = _
    rw [hT, hS.2.1 x (by omega) (hA x hx)]
    exact hus.2 x hx⟩
  have hws : ∀ w ∈ Cond.code y bytes maxL ret :: Ts, ∀ (a' : Array Value) (U : State), s.WarmedH U.vm → w.before a' U = true := by
    intro w hw a' U hWm
    have hw2 : w ∈ Ts := by
      rcases List.mem_cons.mp hw with rfl | h
      · exact hcode
      · exact h
    exact word_at hWm (hG w hw2) (hts w hw2)
  obtain ⟨x, B, X', ⟨g', mk', t, e1, ⟨x', ce, hx', w1, w2, w3, w4, w5, w6⟩, e2, e3, e4⟩, stp⟩ := tw_backT (R := R) (p := p) (e := e) (below := below) (s := s) (args := args) hM hframes hlocals hws hini m meth c ⟨T.setVm vm₁, locs, cells, slots⟩ (F0 m pc la (rest.map (tw_v s0.heap.size z))) (.invokevirtual idx) mk (Value.ref (s0.heap.size + q) :: As.map (tw_v s0.heap.size z)).toArray X₁ rfl (by show la.size = c.maxLocals; rw [hml]; exact hla) (by rw [hb]; exact hd) (tw_room rfl hrest) (X₁.named hnamed) ⟨hcells, hslots, ⟨rfl, by show tw_W _ _ _ _ _ _ _ _ T.heap; rw [hT]; exact hW, va_K.moved X₁.warmed.alike hK, fun x hx => va_Nw.warmM X₁.warmed (hN x hx)⟩, husT⟩
  cases hx'
  obtain ⟨BU, Bl, Bc, Bs⟩ := B
  dsimp only [Pt.U, Pt.locs, Pt.cells, Pt.slots] at X' e1 e2 e3 e4 stp
  subst e3 e4
  rw [List.append_nil] at e2
  subst e2
  have hcast : (Cond.castable xN xN).before args s = true := hus.words hw0 _ (by decide +kernel)
  obtain ⟨c3, c4, hc3, hc4, hasg⟩ := Cond.castable_spec (show (Cond.castable xN xN).holds args s none s [] = true from hcast)
  have hfc : s.vm.findClass xN = some ce.cls := by
    have h9 : (T.setVm vm₁).vm.findClass xN = some ce.cls := w5
    rw [X₁.warmed.alike.findClass] at h9
    exact h9
  have hcT : c3 = ce.cls := Option.some.inj (hc3.symm.trans hfc)
  have hcT4 : c4 = ce.cls := Option.some.inj (hc4.symm.trans hfc)
  rw [hcT, hcT4] at hasg
  obtain ⟨vm', X'', st2⟩ := X'.thenCaughtLink x (g := F0 m pc la (rest.map (tw_v s0.heap.size z))) rfl (s₀ := T.setTop (F0 m pc la ((As.reverse ++ tw_R q :: rest).map (tw_v s0.heap.size z)))) (hstep₁ _ fun acts => by rw [doInvoke_state]; exact stp) hown [] entry [] htab (fun y hy => by cases hy) hcov (by rw [hcat]; decide) (by rw [hcat]; exact hts _ hcl) hfc (by rw [e1]; exact w3) (by rw [w4]; rfl) hasg
  have hHk : ∀ y : Nat, y < H.size → BU.heap[y]? = H[y]? := by
    intro y hy
    rw [e1]
    cases hc9 : H[y]? with
    | none => exact absurd hy (by have := Array.getElem?_eq_none_iff.mp hc9; omega)
    | some cy =>
      exact State.sameButNew.old_cell w2 (show T.heap[y]? = some cy by rw [hT]; exact hc9)
  have hsz : H.size ≤ BU.heap.size := by
    have h9 : T.heap.size ≤ t.heap.size := w2.2.1
    rw [e1, ← hT]
    exact h9
  have hsz2 : BU.heap.size ≤ H.size + 1 := by
    have h9 : t.heap.size ≤ T.heap.size + 1 := w2.2.2.1
    rw [e1, ← hT]
    exact h9
  have hxx : H.size ≤ x := by
    have h9 : T.heap.size ≤ x := w6
    rw [← hT]
    exact h9
  have hW2 : tw_W cl ft D cA s0.heap.size false L f BU.heap := by
    refine hW.more hsz hHk (fun y cell hy hc9 => ?_)
    have hlt : y < BU.heap.size := (Array.getElem?_eq_some_iff.mp hc9).1
    have hltx : @LT.lt Nat _ x BU.heap.size := by rw [e1]; exact (Array.getElem?_eq_some_iff.mp w3).1
    have hyx : y = x := by omega
    subst hyx
    rw [e1, w3] at hc9
    have h9 : ce = cell := Option.some.inj hc9
    rw [← h9, w4]
    rfl
  obtain ⟨t2, a1, a2⟩ := kk BU.heap x hW2 ⟨Nat.le_trans hS.1 hsz, fun y h1 h2 => (hHk y (Nat.lt_of_lt_of_le h1 hS.1)).trans (hS.2.1 y h1 h2), hS.2.2⟩ (BU.setVm vm') rfl X''
  rw [hh] at st2
  exact ⟨t2, st2.trans a1, a2⟩
end CAUGHT
