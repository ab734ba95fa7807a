/-! The walk of the law from its entry. First the frame of the claim, out of the skeleton. -/
/-! THE CLAIM OUT OF ONE WALK OF THE LAW'S BODY. Your part is whole_start (and what it stands on); all else here is the same for every law, but numbers. -/
def R_law : String := "TwinArrayLaw"
def lw_P (b : Addr) (xs : List Int32) (args : Array Value) (s : State) : Prop := args = #[.ref b] ∧ s.IntsAt b xs ∧ xs.length ≤ 2048 ∧ (Jvm.Cond.and given_1 narrow_1).before args s = true
def lw_Q (_ : Array Value) (s : State) (o : Outcome) (t : State) : Prop := o = .returned (some (.int 1)) ∧ Framed s o t [] 1136 12610
def lw_Z (below : List Frame) (a : Array Value) (s : State) : State → Prop := fun t => ∃ o, t.status = .running ∧ Ended t below o ∧ lw_Q a s o t
/-- the law's own end, with 1 on the stack, nothing written that was there before, its room as the claim has it -/
theorem lw_ret {p : Program} {l : Launch} {e : Env} {s : State} {m : MethodId} {below : List Frame} {meth : Method} {c : Code} {b : Nat} (hx : p.tables.exec = Jvm.exec) (hb : c.code = code) (hr : meth.sig.returnType = ret) (hlocks : meth.locks = false) {pc : Nat} {H : Heap} {ls : Array Slot} (hdg : decode code pc = .ok (.ireturn, 1)) : W p l e room_1 s m #[Value.ref b] below meth c H [] 1136 12610 (lw_Z below #[Value.ref b] s) (F0 m pc ls [.int 1]) := by
  intro T hT X
  obtain ⟨fs, hret, hrun, hended, hW, hframe⟩ := X.leave (v := some (.int 1)) (hlocks := hlocks) (fun h => by rw [hr] at h; cases h)
  have hmeth' : T.vm.method? m = some meth := X.method'
  refine ⟨T.setFrames fs, ?_, .returned (some (.int 1)), hrun, hended, rfl, ⟨_, rfl⟩, hW, hframe⟩
  jvm_step X.here [X.here.top, hx, hb, hdg, hmeth', hr, ret, narrow_b1]
  (try refine ⟨rfl, ?_⟩); (try refine ⟨rfl, ?_⟩)
  first | (intro acts; rw [hret _ acts rfl rfl rfl]) | rw [hret _ _ rfl rfl rfl]
  exact Steps.refl _
/-- what holds at the law's entry: the machine, the code, the tables' words (any of lw_tbl by 'hts w (by decide +kernel)'), the script of L ints xs at the cell b, what the Statement gives of the start (any of its parts by flat_of_before) -/
def lw_At (p : Program) (s : State) (m : MethodId) (meth : Method) (c : Code) (b L : Nat) (xs : Nat → Int32) : Prop :=
  p.tables.exec = Jvm.exec ∧ c.code = code ∧ meth.sig.returnType = ret ∧ c.maxLocals = 7 ∧ s.vm.findClass R_law = some m.cls ∧ (∀ w ∈ lw_tbl, w.before #[Value.ref b] s = true) ∧ va_X b L xs s s.heap ∧ b < s.heap.size ∧ meth.locks = false ∧ (Jvm.Cond.and given_1 narrow_1).before #[Value.ref b] s = true
theorem tg_helper {p : Program} {l : Launch} {e : Env} {R : Room} {s : State} {m : MethodId} {args : Array Value} {below : List Frame} {meth : Method} {c : Code} {Q : State → Prop} {D : va_G} {cA : Nat → ClassId} {z nL : Nat} {cc : ByteArray} {pc : Nat} {f : tw_S} {y : MethodName} {bytes : ByteArray} {maxL idx : Nat} {ret : Option FieldType} {hh : List (Nat × Nat × Nat × Nat)} {As rest : List tw_A} {H : Heap} {locs : List Loc} {la : Array Slot} {cells slots : Nat} {P : tw_S → Option tw_A → Prop}
    (hM : Met l y (Cond.codeWith y bytes maxL ret hh :: tx_Ts) rmH (fun v U => tw_Pc tx_cl tx_ft D cA (tyA cA) tx_Nm s.heap.size z false As tx_L0 f v U ∧ tw_us s.heap.size s U) (tw_Qc tx_cl tx_ft D cA s.heap.size z (fun x => s.heap.size ≤ x) false tx_L0 P) 1 6 (fun x => s.heap.size ≤ x))
    (hx : p.tables.exec = Jvm.exec) (hb : c.code = cc) (hml : c.maxLocals = nL) (hla : la.size = nL) (hown : s.vm.findClass "TwinArrayLaw" = some m.cls) (hG : ∀ w ∈ tx_Ts, (w.onTables && w.keeps) = true ∨ ∃ t, w = .arrayClass t) (hts : ∀ w ∈ tx_Ts, w.before args s = true)
    (hcode : Cond.codeWith y bytes maxL ret hh ∈ tx_Ts) (hini : Cond.initialized y.cls ∈ tx_Ts) (hstat : Cond.static y ∈ tx_Ts) (hlink : Cond.methodLink "TwinArrayLaw" idx y ∈ tx_Ts) (hy : y.cls ≠ "java/lang/invoke/MethodHandle" ∧ y.cls ≠ "java/lang/invoke/VarHandle") (hpar : (parseMethodDescriptor y.desc).map (fun d => d.parameters.length) = some As.length)
    (hframes : 8 ≤ R.frames) (hlocals : 8 + (maxL + 11) + 145 ≤ R.locals) (hcells : cells + 1 ≤ R.cells) (hslots : slots + 6 ≤ R.slots) (hK : va_K D tx_cl (tyA cA) s) (hN : ∀ x ∈ tx_Nm, va_Nw (.methodLinkNest x.1 x.2.1 x.2.2.1 x.2.2.2) s)
    (hW : tw_W tx_cl tx_ft D cA s.heap.size false tx_L0 f H) (hS : va_S (fun x => s.heap.size ≤ x) s.heap H locs) (hrest : (rest.map tw_ct).sum ≤ 8) (hd : decode cc pc = .ok (.invokestatic idx, 3))
    (kk : ∀ (f' : tw_S) (r : Option tw_A) (H1 : Heap) (locs1 : List Loc), P f' r → tw_W tx_cl tx_ft D cA s.heap.size false tx_L0 f' H1 → va_S (fun x => s.heap.size ≤ x) s.heap H1 locs1 → W p l e R s m args below meth c H1 locs1 (cells + 1) (slots + 6) Q (F0 m (pc + 3) la ((r.map (tw_v s.heap.size z)).toList ++ rest.map (tw_v s.heap.size z)))) :
    W p l e R s m args below meth c H locs cells slots Q (F0 m pc la ((As.reverse ++ rest).map (tw_v s.heap.size z))) := by
  have hws : ∀ w ∈ Cond.codeWith y bytes maxL ret hh :: tx_Ts, ∀ (a' : Array Value) (U : State), s.WarmedH U.vm → w.before a' U = true := by
    intro w hw a' U hWm
    have hw2 : w ∈ tx_Ts := by
      rcases List.mem_cons.mp hw with rfl | h
      · exact hcode
      · exact h
    exact word_at hWm (hG w hw2) (hts w hw2)
  have hBk : Back l R p e below s args y 3 8 (PreOf R 1 6 (fun v U => tw_Pc tx_cl tx_ft D cA (tyA cA) tx_Nm s.heap.size z false As tx_L0 f v U ∧ tw_us s.heap.size s U)) (PostOf (tw_Qc tx_cl tx_ft D cA s.heap.size z (fun x => s.heap.size ≤ x) false tx_L0 P) 1 6 (fun x => s.heap.size ≤ x)) :=
    va_backW (hh := hh) (bytes := bytes) (maxL := maxL) (ret := ret) hM (fun a U g mk h => ⟨tw_blind _ _ _ _ h.1, h.2.calling⟩) rfl rfl hframes hlocals hws List.mem_cons_self (fun a' U hWm => hws _ (List.mem_cons_of_mem _ hini) a' U hWm)
  refine tw_callW (a := (As.map (tw_v s.heap.size z)).toArray) (st0 := (As.reverse ++ rest).map (tw_v s.heap.size z)) (rest := rest.map (tw_v s.heap.size z)) (L' := tx_L0) (fl := false) (A := fun x => s.heap.size ≤ x) ?_ hS kk
  intro T hT X
  obtain ⟨mk, methM, c9, hnamed, hmethM, -, -, -, -, -, -, hsigM⟩ := Cond.codeWith_spec (show (Cond.codeWith y bytes maxL ret hh).holds args s none s [] = true from hts _ hcode)
  have hstatic : methM.isStatic = true := Cond.static_spec hnamed hmethM (hts _ hstat)
  obtain ⟨kP, hkP, -⟩ := className_of_methodNamed hnamed
  have hinitP : kP.init = .initialized := Cond.initialized_spec (findClass_of_methodNamed hnamed) hkP (hts _ hini)
  have hlen : (As.map (tw_v s.heap.size z)).length = methM.sig.parameters.length := by
    rw [List.length_map]
    rw [hsigM] at hpar
    exact (Option.some.inj hpar).symm
  obtain ⟨vm₁, X₁, hstep₁⟩ := X.invokestatic hx hown (hts _ hlink) hnamed hmethM hstatic hkP hinitP hy (g := F0 m pc la ((As.reverse ++ rest).map (tw_v s.heap.size z))) rfl (argsL := As.map (tw_v s.heap.size z)) (rest := rest.map (tw_v s.heap.size z)) hlen (by show ((As.reverse ++ rest).map (tw_v s.heap.size z)) = _; rw [List.map_append, List.map_reverse]) (by rw [hb]; exact hd)
  obtain ⟨v, ⟨BU, Bl, Bc, Bs⟩, X', ⟨g', mk', t, L', e1, e2, hq, h1, hL, h2, h3⟩, hsteps⟩ := hBk m meth c ⟨T.setVm vm₁, locs, cells, slots⟩ (F0 m pc la (rest.map (tw_v s.heap.size z))) (.invokestatic idx) mk (As.map (tw_v s.heap.size z)).toArray X₁ rfl (by show la.size = c.maxLocals; rw [hml]; exact hla) (by rw [hb]; exact hd) (tw_room rfl hrest) (X₁.named hnamed) ⟨hcells, hslots, ⟨rfl, by show tw_W _ _ _ _ _ _ _ _ T.heap; rw [hT]; exact hW, va_K.moved X₁.warmed.alike hK, fun x hx => va_Nw.warmM X₁.warmed (hN x hx)⟩, X₁.warmed, fun x hx => by show T.heap[x]? = _; rw [hT]; exact hS.2.1 x hx (fun h9 => absurd hx (Nat.not_lt.mpr h9))⟩
  dsimp only [Pt.U, Pt.locs, Pt.cells, Pt.slots] at X' e1 e2 h1 h2 h3 hsteps
  subst h1 h2 h3
  exact ⟨v, (T.setVm vm₁).calling g' mk' (As.map (tw_v s.heap.size z)).toArray, t, BU, L', hT, X', hL, e1, e2, hq, fun target h => hstep₁ _ fun acts => by rw [doInvoke_state]; exact hsteps.trans h⟩
theorem lw_inst : tx_cl.all (fun q => decide (Cond.instantiable q.1 q.2.2 ∈ tx_Ts)) = true := by decide +kernel
theorem lw_known {args : Array Value} {s : State} (hOK : tw_OK tx_cl tx_ft tx_ty tx_mt tx_sw tx_lk tx_n tx_Ts tx_Nm) (hts : ∀ w ∈ tx_Ts, w.before args s = true) : ∃ (D : va_G) (cA : Nat → ClassId), va_K D tx_cl (tyA cA) s := by
  have h1 : ∀ c : Nat, ∃ d : ClassId × (Nat → Nat), ∀ q, tx_cl[c]? = some q → u_Kn s q.1 q.2.1 q.2.2 d.1 d.2 := by
    intro c
    cases hc : tx_cl[c]? with
    | none => exact ⟨(0, id), fun q h => by cases h⟩
    | some q =>
      have hi := of_decide_eq_true (List.all_eq_true.mp lw_inst q (List.mem_of_getElem? hc))
      obtain ⟨cC, iS, h⟩ := u_known hts (hOK.1 c q hc).1 (hts _ hi)
      exact ⟨(cC, iS), fun q2 h2 => by cases h2; exact h⟩
  obtain ⟨d, hd⟩ := Classical.axiomOfChoice h1
  have h2 : ∀ a : Nat, ∃ cA : ClassId, (a = 100 ∨ a = 101 ∨ a = 102) → ArrOfT s cA (tw_ty a) ∧ s.vm.findClass ("[" ++ (tw_ty a).toString) = some cA := by
    intro a
    by_cases ha : a = 100 ∨ a = 101 ∨ a = 102
    · obtain ⟨cA, kA, comp, q1, q2, q3⟩ := Cond.arrayClass_spec (show (Cond.arrayClass (tw_ty a)).holds args s none s [] = true from hts _ (hOK.2.2.2.2.2.2.1 a ha))
      exact ⟨cA, fun _ => ⟨fun n z => ⟨fun k h => (by cases h), kA, q2, comp, q3⟩, q1⟩⟩
    · exact ⟨0, fun h => absurd h ha⟩
  obtain ⟨cA, hcA⟩ := Classical.axiomOfChoice h2
  refine ⟨(fun c => (d c).1, fun c => (d c).2), cA, fun c q hq => hd c q hq, fun k q hq => ?_⟩
  match k with
  | 0 => cases hq; exact ⟨(hcA 100 (by decide)).1, (hcA 100 (by decide)).2⟩
  | 1 => cases hq; exact ⟨(hcA 101 (by decide)).1, (hcA 101 (by decide)).2⟩
  | 2 => cases hq; exact ⟨(hcA 102 (by decide)).1, (hcA 102 (by decide)).2⟩
  | k + 3 => cases hq
theorem lw_nest : tx_Nm.all (fun x => decide (Cond.methodLinkNest x.1 x.2.1 x.2.2.1 x.2.2.2 ∈ lw_tbl)) = true := by decide +kernel
theorem lw_xAt : xAt.all (fun a => decide (a ∈ lw_tbl ∨ a = .isRef (.static "java/lang/Throwable" "UNASSIGNED_STACK" "[Ljava/lang/StackTraceElement;") ∨ a = .isRef (.static "java/lang/Throwable" "SUPPRESSED_SENTINEL" "Ljava/util/List;"))) = true := by decide +kernel
theorem lw_len : tx_L0.length = 109 := rfl
theorem lw_sl : tw_sl tx_L0 = 4400 := by decide +kernel
theorem lw_end {below : List Frame} {D : va_G} {cA : Nat → ClassId} {z mc ms : Nat} {s : State} {fl : Bool} (h1 : mc ≤ 1136) (h2 : ms ≤ 12610) (t : State) (h : MQ below (tw_Qc tx_cl tx_ft D cA s.heap.size z (fun x => s.heap.size ≤ x) fl tx_L0 (fun _ r => r = some (tw_I 1))) #[Value.ref z] s mc ms (fun x => s.heap.size ≤ x) t) : lw_Z below #[Value.ref z] s t := by
  obtain ⟨o, q1, q2, ⟨⟨f, r, rfl, rfl, -⟩, -⟩, L, ⟨f1, f2, f3⟩, q5⟩ := h
  exact ⟨_, q1, q2, rfl, ⟨_, rfl⟩, f2, f3.weaken (fun y hy hlt => absurd hlt (Nat.not_lt.mpr (q5 y hy))) h1 h2⟩
set_option maxHeartbeats 8000000 in
set_option maxRecDepth 20000 in
theorem lw_all {p : Program} {e : Env} {s : State} {m : MethodId} {below : List Frame} {meth : Method} {c : Code} (l : Launch) {b L : Nat} {xs : Nat → Int32} (htr : l.stackTraces = false) (hname : meth.name = x.name) (hL : L ≤ 2048) (C0 : lw_At p s m meth c b L xs) (hOK : tw_OK tx_cl tx_ft tx_ty tx_mt tx_sw tx_lk tx_n tx_Ts tx_Nm) (hcm : tw_cm tx_lk tx_mt tx_sw tx_mL = true) : W p l e room_1 s m #[Value.ref b] below meth c s.heap [] 0 0 (lw_Z below #[Value.ref b] s) (entryFrame m ([Value.ref b] : List Value).toArray 7) := by
  obtain ⟨hx, hb, hr, hml, hown, hts0, hX, hbl, hlocks, hgv⟩ := C0
  have hts : ∀ w ∈ tx_Ts, w.before #[Value.ref b] s = true := fun w hw => hts0 w (List.mem_filter.mp hw).1
  obtain ⟨D, cA, hK⟩ := lw_known hOK hts
  have hN : ∀ x ∈ tx_Nm, va_Nw (.methodLinkNest x.1 x.2.1 x.2.2.1 x.2.2.2) s := fun x hx => va_Nw.of rfl (hts0 _ (of_decide_eq_true (List.all_eq_true.mp lw_nest x hx)))
  have hw0 : ∀ w ∈ xAt, w.before #[Value.ref b] s = true := by
    intro w hw
    rcases of_decide_eq_true (List.all_eq_true.mp lw_xAt w hw) with h | rfl | rfl
    · exact hts0 w h
    · exact flat_of_before _ hgv _ (by decide +kernel)
    · exact flat_of_before _ hgv _ (by decide +kernel)
  have hG : ∀ w ∈ tx_Ts, (w.onTables && w.keeps) = true ∨ ∃ t, w = .arrayClass t := hOK.2.2.2.2.2.2.2.1
  have hmw : tw_mw tx_cl tx_mt tx_sw tx_lk tx_n tx_mL := ⟨rfl, rfl, hcm, fun h => absurd h (by decide)⟩
  have hcl : ∀ (fl : Bool) (g : Nat), g ≤ 512 → tw_Cl tx_mt tx_sw tx_ft fl (some (L, xs)) (tw_Sp tx_mt tx_sw tx_ft fl 10) tx_L0 (fun _ r => r = some (tw_I 1)) tx_tL (fun ix ls st L f => tw_G p l e room_1 s m #[Value.ref b] below meth c (lw_Z below #[Value.ref b] s) tx_cl tx_ft D cA s.heap.size b 7 (-(g : Int)) (-(6 * g : Int)) (fun x => s.heap.size ≤ x) fl (tw_pc tx_tL ix) ls st L f) := by
    intro fl g hg
    exact tw_closed (b := s.heap.size) (z := b) (n0 := -(g : Int)) (s0 := -(6 * g : Int)) (xs := some (L, xs)) (P := fun _ r => r = some (tw_I 1)) (Lf := tx_L0) (R := room_1) (below := below) (l := l) (e := e) (fl := fl) (A := fun x => s.heap.size ≤ x) (r := tx_mL) (Sp := tw_Sp tx_mt tx_sw tx_ft fl 10) (Q := lw_Z below #[Value.ref b] s) hOK hmw hx hb hml hr hlocks hname hts hown hK hN (Nat.le_refl _) (fun N g h => by cases h; exact ⟨hX, hbl, Nat.not_le.mpr hbl⟩) (fun _ _ _ _ y hy => hy) (by decide) (by decide) (by rw [lw_len]; show _ ≤ 1136; omega) (by rw [lw_sl]; show _ ≤ 12610; omega) (lw_end (by rw [lw_len]; omega) (by rw [lw_sl]; omega)) (tw_met (fun _ h => h) hOK 10)
  have hT : ∀ (g : Nat), g < 512 → lwT (fun ix ls st L f => tw_G p l e room_1 s m #[Value.ref b] below meth c (lw_Z below #[Value.ref b] s) tx_cl tx_ft D cA s.heap.size b 7 (-(g : Int)) (-(6 * g : Int)) (fun x => s.heap.size ≤ x) false (tw_pc tx_tL ix) ls st L f) (fun ix ls st L f => tw_G p l e room_1 s m #[Value.ref b] below meth c (lw_Z below #[Value.ref b] s) tx_cl tx_ft D cA s.heap.size b 7 (-((g + 1 : Nat) : Int)) (-(6 * ((g + 1 : Nat) : Int))) (fun x => s.heap.size ≤ x) false (tw_pc tx_tL ix) ls st L f) 96 7 := by
    intro g hg ls f tm p1 ht ht2 hv hbad H locs la g1 g2 hW hS hh
    have hM := lh_ticket (l := l) (D := D) (cA := cA) (z := b) (s0 := s) (x := p1) (f := f) htr hOK hw0 (P := fun f2 r2 => (∃ j, j < tm ∧ p1 = nI j ∧ f2 = tw_up f 108 0 (f 7 j) ∧ r2 = some (tw_I 0)) ∨ ((p1 < 0 ∨ nI tm ≤ p1) ∧ f2 = f ∧ r2 = some (tw_I 1))) (by
      rcases pk_ix p1 (n := tm) (by omega) with h | h | ⟨j, hj, hp⟩
      · exact Or.inr ⟨wt_ticket ht ht2 (Or.inl h), Or.inr ⟨Or.inl h, rfl, rfl⟩⟩
      · exact Or.inr ⟨wt_ticket ht ht2 (Or.inr h), Or.inr ⟨Or.inr h, rfl, rfl⟩⟩
      · exact Or.inl ⟨f 7 j, by rw [hp]; exact s_ticket_k (d := 0) ht ht2 hj ⟨rfl, rfl⟩, Or.inl ⟨j, hj, hp, rfl, rfl⟩⟩)
    refine tg_helper (pc := 234) (idx := 35) (As := [tw_R 0, tw_I p1, tw_R 108]) (rest := []) (nL := 7) hM hx hb hml hh.1 hown hG hts (List.mem_filter.mpr ⟨by decide +kernel, by decide +kernel⟩) (List.mem_filter.mpr ⟨by decide +kernel, by decide +kernel⟩) (List.mem_filter.mpr ⟨by decide +kernel, by decide +kernel⟩) (List.mem_filter.mpr ⟨by decide +kernel, by decide +kernel⟩) (by decide) (show (parseMethodDescriptor yHticket.desc).map (fun d => d.parameters.length) = some 3 by decide +kernel) (by decide) (by decide) (by rw [lw_len]; show _ ≤ 1136; omega) (by rw [lw_sl]; show _ ≤ 12610; omega) hK hN hW hS (by decide) (by decide +kernel) (fun f' r' H1 locs1 hP hW1 hS1 => ?_)
    rw [show (((tx_L0.length : Nat) : Int) - -(g : Int)).toNat + 1 = (((tx_L0.length : Nat) : Int) - -((g + 1 : Nat) : Int)).toNat by omega, show (((tw_sl tx_L0 : Nat) : Int) - -(6 * g : Int)).toNat + 6 = (((tw_sl tx_L0 : Nat) : Int) - -(6 * ((g + 1 : Nat) : Int))).toNat by omega]
    rcases hP with ⟨j, hj, hp, rfl, rfl⟩ | ⟨hb2, rfl, rfl⟩
    · exact hv j hj hp H1 locs1 la (by omega) (by omega) hW1 hS1 hh
    · exact hbad hb2 H1 locs1 la (by omega) (by omega) hW1 hS1 hh
  have hV : ∀ (g : Nat), g < 512 → lwT (fun ix ls st L f => tw_G p l e room_1 s m #[Value.ref b] below meth c (lw_Z below #[Value.ref b] s) tx_cl tx_ft D cA s.heap.size b 7 (-(g : Int)) (-(6 * g : Int)) (fun x => s.heap.size ≤ x) false (tw_pc tx_tL ix) ls st L f) (fun ix ls st L f => tw_G p l e room_1 s m #[Value.ref b] below meth c (lw_Z below #[Value.ref b] s) tx_cl tx_ft D cA s.heap.size b 7 (-((g + 1 : Nat) : Int)) (-(6 * ((g + 1 : Nat) : Int))) (fun x => s.heap.size ≤ x) false (tw_pc tx_tL ix) ls st L f) 131 8 := by
    intro g hg ls f tm p1 ht ht2 hv hbad H locs la g1 g2 hW hS hh
    have hM := lh_value (l := l) (D := D) (cA := cA) (z := b) (s0 := s) (x := p1) (f := f) htr hOK hw0 (P := fun f2 r2 => (∃ j, j < tm ∧ p1 = nI j ∧ f2 = tw_up f 108 0 (f 8 j) ∧ r2 = some (tw_I 0)) ∨ ((p1 < 0 ∨ nI tm ≤ p1) ∧ f2 = f ∧ r2 = some (tw_I 1))) (by
      rcases pk_ix p1 (n := tm) (by omega) with h | h | ⟨j, hj, hp⟩
      · exact Or.inr ⟨wt_value ht ht2 (Or.inl h), Or.inr ⟨Or.inl h, rfl, rfl⟩⟩
      · exact Or.inr ⟨wt_value ht ht2 (Or.inr h), Or.inr ⟨Or.inr h, rfl, rfl⟩⟩
      · exact Or.inl ⟨f 8 j, by rw [hp]; exact s_value_k (d := 0) ht ht2 hj ⟨rfl, rfl⟩, Or.inl ⟨j, hj, hp, rfl, rfl⟩⟩)
    refine tg_helper (pc := 290) (idx := 45) (As := [tw_R 0, tw_I p1, tw_R 108]) (rest := []) (nL := 7) hM hx hb hml hh.1 hown hG hts (List.mem_filter.mpr ⟨by decide +kernel, by decide +kernel⟩) (List.mem_filter.mpr ⟨by decide +kernel, by decide +kernel⟩) (List.mem_filter.mpr ⟨by decide +kernel, by decide +kernel⟩) (List.mem_filter.mpr ⟨by decide +kernel, by decide +kernel⟩) (by decide) (show (parseMethodDescriptor yHvalue.desc).map (fun d => d.parameters.length) = some 3 by decide +kernel) (by decide) (by decide) (by rw [lw_len]; show _ ≤ 1136; omega) (by rw [lw_sl]; show _ ≤ 12610; omega) hK hN hW hS (by decide) (by decide +kernel) (fun f' r' H1 locs1 hP hW1 hS1 => ?_)
    rw [show (((tx_L0.length : Nat) : Int) - -(g : Int)).toNat + 1 = (((tx_L0.length : Nat) : Int) - -((g + 1 : Nat) : Int)).toNat by omega, show (((tw_sl tx_L0 : Nat) : Int) - -(6 * g : Int)).toNat + 6 = (((tw_sl tx_L0 : Nat) : Int) - -(6 * ((g + 1 : Nat) : Int))).toNat by omega]
    rcases hP with ⟨j, hj, hp, rfl, rfl⟩ | ⟨hb2, rfl, rfl⟩
    · exact hv j hj hp H1 locs1 la (by omega) (by omega) hW1 hS1 hh
    · exact hbad hb2 H1 locs1 la (by omega) (by omega) hW1 hS1 hh
  have hD : ∀ (g : Nat), g < 512 → lwD (fun ix ls st L f => tw_G p l e room_1 s m #[Value.ref b] below meth c (lw_Z below #[Value.ref b] s) tx_cl tx_ft D cA s.heap.size b 7 (-(g : Int)) (-(6 * g : Int)) (fun x => s.heap.size ≤ x) false (tw_pc tx_tL ix) ls st L f) (fun ix ls st L f => tw_G p l e room_1 s m #[Value.ref b] below meth c (lw_Z below #[Value.ref b] s) tx_cl tx_ft D cA s.heap.size b 7 (-((g + 1 : Nat) : Int)) (-(6 * ((g + 1 : Nat) : Int))) (fun x => s.heap.size ≤ x) false (tw_pc tx_tL ix) ls st L f) 412 := by
    intro g hg ls f p1 q1 hv hbad H locs la g1 g2 hW hS hh
    have hM := lh_onDisk (l := l) (D := D) (cA := cA) (z := b) (s0 := s) (x := p1) (y := q1) (f := f) htr hOK hw0 (P := fun f2 r2 => (∃ i j, i < 5 ∧ j < 8 ∧ p1 = nI i ∧ q1 = nI j ∧ f 5 (i * 8 + j) = 0 ∧ f2 = tw_up f 108 0 (f 4 (i * 8 + j)) ∧ r2 = some (tw_I 0)) ∨ (((p1 < 0 ∨ nI 5 ≤ p1) ∨ ((q1 < 0 ∨ nI 8 ≤ q1) ∧ ∃ i, i < 5 ∧ p1 = nI i) ∨ (∃ i s, i < 5 ∧ s < 8 ∧ p1 = nI i ∧ q1 = nI s ∧ ¬ f 5 (i * 8 + s) = 0)) ∧ f2 = f ∧ r2 = some (tw_I 1))) (by
      rcases pk_ix p1 (n := 5) (by omega) with h | h | ⟨i, hi, hp⟩
      · exact Or.inr ⟨wt_onDisk (Or.inl (Or.inl h)), Or.inr ⟨Or.inl (Or.inl h), rfl, rfl⟩⟩
      · exact Or.inr ⟨wt_onDisk (Or.inl (Or.inr h)), Or.inr ⟨Or.inl (Or.inr h), rfl, rfl⟩⟩
      · rcases pk_ix q1 (n := 8) (by omega) with h | h | ⟨j, hj, hq⟩
        · exact Or.inr ⟨wt_onDisk (Or.inr (Or.inl ⟨Or.inl h, i, hi, hp⟩)), Or.inr ⟨Or.inr (Or.inl ⟨Or.inl h, i, hi, hp⟩), rfl, rfl⟩⟩
        · exact Or.inr ⟨wt_onDisk (Or.inr (Or.inl ⟨Or.inr h, i, hi, hp⟩)), Or.inr ⟨Or.inr (Or.inl ⟨Or.inr h, i, hi, hp⟩), rfl, rfl⟩⟩
        · by_cases hmi : f 5 (i * 8 + j) = 0
          · exact Or.inl ⟨f 4 (i * 8 + j), by rw [hp, hq]; exact s_onDisk_i (d := 0) hi hj hmi ⟨rfl, rfl⟩, Or.inl ⟨i, j, hi, hj, hp, hq, hmi, rfl, rfl⟩⟩
          · exact Or.inr ⟨wt_onDisk (Or.inr (Or.inr ⟨i, j, hi, hj, hp, hq, hmi⟩)), Or.inr ⟨Or.inr (Or.inr ⟨i, j, hi, hj, hp, hq, hmi⟩), rfl, rfl⟩⟩)
    refine tg_helper (pc := 717) (idx := 111) (As := [tw_R 0, tw_I p1, tw_I q1, tw_R 108]) (rest := []) (nL := 7) hM hx hb hml hh.1 hown hG hts (List.mem_filter.mpr ⟨by decide +kernel, by decide +kernel⟩) (List.mem_filter.mpr ⟨by decide +kernel, by decide +kernel⟩) (List.mem_filter.mpr ⟨by decide +kernel, by decide +kernel⟩) (List.mem_filter.mpr ⟨by decide +kernel, by decide +kernel⟩) (by decide) (show (parseMethodDescriptor yHonDisk.desc).map (fun d => d.parameters.length) = some 4 by decide +kernel) (by decide) (by decide) (by rw [lw_len]; show _ ≤ 1136; omega) (by rw [lw_sl]; show _ ≤ 12610; omega) hK hN hW hS (by decide) (by decide +kernel) (fun f' r' H1 locs1 hP hW1 hS1 => ?_)
    rw [show (((tx_L0.length : Nat) : Int) - -(g : Int)).toNat + 1 = (((tx_L0.length : Nat) : Int) - -((g + 1 : Nat) : Int)).toNat by omega, show (((tw_sl tx_L0 : Nat) : Int) - -(6 * g : Int)).toNat + 6 = (((tw_sl tx_L0 : Nat) : Int) - -(6 * ((g + 1 : Nat) : Int))).toNat by omega]
    rcases hP with ⟨i, j, hi, hj, hp, hq, hmi, rfl, rfl⟩ | ⟨hb2, rfl, rfl⟩
    · exact hv i j hi hj hp hq hmi H1 locs1 la (by omega) (by omega) hW1 hS1 hh
    · exact hbad hb2 H1 locs1 la (by omega) (by omega) hW1 hS1 hh
  have hloop := lw_loop (X := fun g ix ls st L f => tw_G p l e room_1 s m #[Value.ref b] below meth c (lw_Z below #[Value.ref b] s) tx_cl tx_ft D cA s.heap.size b 7 (-(g : Int)) (-(6 * g : Int)) (fun x => s.heap.size ≤ x) false (tw_pc tx_tL ix) ls st L f) hL (fun g hg => hcl false g hg) hT hV hD 512 0 0 rfl (Nat.le_refl _)
  have h0 := lw_begin (hcl true 0 (by omega)) (fun f hf => tw_G_down (hloop none none f 0 hf)) (fun _ _ => 0) s.heap [] _ (by decide) (by decide) ⟨fun k q hq => (by cases hq), Nat.le_refl _, fun _ => rfl, fun x cell hx hc => absurd (Array.getElem?_eq_some_iff.mp hc).1 (Nat.not_lt.mpr hx)⟩ va_S.rf (tw_entry (As := [tw_Z]) (n := 7) rfl (by decide))
  rw [lg_entry_eq]
  exact h0
