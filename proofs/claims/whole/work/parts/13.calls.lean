/-! Ends and calls. -/
def tw_Qc (cl : List vw_C) (ft : Nat → Nat → Nat) (D : va_G) (cA : Nat → ClassId) (b z : Nat) (A : Nat → Prop) (fl : Bool) (L : tw_L) (P : tw_S → Option tw_A → Prop) : Array Value → State → Outcome → State → Prop := fun _ st oc t =>
  (∃ (f : tw_S) (r : Option tw_A), oc = .returned (r.map (tw_v b z)) ∧ P f r ∧ tw_W cl ft D cA b fl L f t.heap) ∧ va_F A st t
abbrev tw_N : Type := String × Nat × MethodName × String
def tw_Pc (cl : List vw_C) (ft : Nat → Nat → Nat) (D : va_G) (cA : Nat → ClassId) (tys : List (ClassId × FieldType)) (Nm : List tw_N) (b z : Nat) (fl : Bool) (As : List tw_A) (L : tw_L) (f : tw_S) : Array Value → State → Prop := fun v U =>
  v = (As.map (tw_v b z)).toArray ∧ tw_W cl ft D cA b fl L f U.heap ∧ va_K D cl tys U ∧ ∀ x ∈ Nm, va_Nw (.methodLinkNest x.1 x.2.1 x.2.2.1 x.2.2.2) U
theorem tw_blind {cl : List vw_C} {ft : Nat → Nat → Nat} {D : va_G} {cA : Nat → ClassId} {tys : List (ClassId × FieldType)} {Nm : List tw_N} {b z : Nat} {fl : Bool} {As : List tw_A} {L : tw_L} {f : tw_S} : FrameBlind (tw_Pc cl ft D cA tys Nm b z fl As L f) :=
  fun a U g mk h => ⟨h.1, h.2.1, va_K.moved (u := U) (U := U.calling g mk a) (Vm.Alike.refl U.vm) h.2.2.1, fun x hx => va_Nw.same (u := U) (U := U.calling g mk a) rfl rfl (h.2.2.2 x hx)⟩
section CALLS
variable {p : Program} {l : Launch} {e : Env} {R : Room} {s : State} {m : MethodId} {args : Array Value} {below : List Frame} {meth : Method} {c : Code} {Q : State → Prop} {cl : List vw_C} {ft : Nat → Nat → Nat} {D : va_G} {cA : Nat → ClassId} {b z nL : Nat} {n0 s0 : Int} {A : Nat → Prop} {fl : Bool} {cc : ByteArray} {pc : Nat} {ls : List (Option tw_A)} {st : List tw_A} {L : tw_L} {f : tw_S} {tys : List (ClassId × FieldType)} {Nm : List tw_N} {P : tw_S → Option tw_A → Prop}
theorem tg_iret (hx : p.tables.exec = Jvm.exec) (hb : c.code = cc) (hr : meth.sig.returnType = some .int) (hlocks : meth.locks = false) {x : Int32} (hd : decode cc pc = .ok (.ireturn, 1)) (hP : P f (some (tw_I x))) :
    tw_G p l e R s m args below meth c (MQ below (tw_Qc cl ft D cA b z A fl L P) args s ((((L.length : Nat) : Int) - n0).toNat) ((((tw_sl L : Nat) : Int) - s0).toNat) A) cl ft D cA b z nL n0 s0 A fl pc ls [tw_I x] L f :=
  fun _ _ _ _ _ hW hS _ => W.iret (v := x) hx hb hr (fun t ht _ => ⟨⟨f, some (tw_I x), rfl, hP, by rw [ht]; exact hW⟩, hS.F ht⟩) hS.2.2 hd hlocks
theorem tg_zret (hx : p.tables.exec = Jvm.exec) (hb : c.code = cc) (hr : meth.sig.returnType = some .boolean) (hlocks : meth.locks = false) {x : Int32} (hd : decode cc pc = .ok (.ireturn, 1)) (h01 : x = 0 ∨ x = 1) (hP : P f (some (tw_I x))) :
    tw_G p l e R s m args below meth c (MQ below (tw_Qc cl ft D cA b z A fl L P) args s ((((L.length : Nat) : Int) - n0).toNat) ((((tw_sl L : Nat) : Int) - s0).toNat) A) cl ft D cA b z nL n0 s0 A fl pc ls [tw_I x] L f :=
  fun _ _ _ _ _ hW hS _ => W.zret (v := x) hx hb hr (by rcases h01 with rfl | rfl <;> rfl) (fun t ht _ => ⟨⟨f, some (tw_I x), rfl, hP, by rw [ht]; exact hW⟩, hS.F ht⟩) hS.2.2 hd hlocks
theorem tg_vret (hx : p.tables.exec = Jvm.exec) (hb : c.code = cc) (hr : meth.sig.returnType = none) (hlocks : meth.locks = false) (hd : decode cc pc = .ok (.return_, 1)) (hP : P f none) :
    tw_G p l e R s m args below meth c (MQ below (tw_Qc cl ft D cA b z A fl L P) args s ((((L.length : Nat) : Int) - n0).toNat) ((((tw_sl L : Nat) : Int) - s0).toNat) A) cl ft D cA b z nL n0 s0 A fl pc ls [] L f :=
  fun _ _ _ _ _ hW hS _ => W.vret hx hb hr (fun t ht _ => ⟨⟨f, none, rfl, hP, by rw [ht]; exact hW⟩, hS.F ht⟩) hS.2.2 hd hlocks
theorem tg_aret (hx : p.tables.exec = Jvm.exec) (hb : c.code = cc) {rt : FieldType} (hr : meth.sig.returnType = some rt) (hrt : (∃ n, rt = .object n) ∨ ∃ t, rt = .array t) (hlocks : meth.locks = false) {q : Nat} (hd : decode cc pc = .ok (.areturn, 1)) (hP : P f (some (tw_R q))) :
    tw_G p l e R s m args below meth c (MQ below (tw_Qc cl ft D cA b z A fl L P) args s ((((L.length : Nat) : Int) - n0).toNat) ((((tw_sl L : Nat) : Int) - s0).toNat) A) cl ft D cA b z nL n0 s0 A fl pc ls [tw_R q] L f :=
  fun _ _ _ _ _ hW hS _ => W.aret (v := .ref (b + q)) hx hb hr hrt (Or.inr ⟨_, rfl⟩) (fun t ht _ => ⟨⟨f, some (tw_R q), rfl, hP, by rw [ht]; exact hW⟩, hS.F ht⟩) hS.2.2 hd hlocks
theorem tw_callW {H : Heap} {H0 : Heap} {locs : List Loc} {cells slots mc ms : Nat} {la : Array Slot} {st0 rest : List Value} {L' : tw_L} {a : Array Value}
    (hr : va_Run p l e R s m args below meth c H locs cells slots mc ms (F0 m pc la st0) rest (tw_Qc cl ft D cA b z A fl L' P a) A) (hS : va_S A H0 H locs)
    (kk : ∀ (f' : tw_S) (r : Option tw_A) (H1 : Heap) (locs1 : List Loc), P f' r → tw_W cl ft D cA b fl L' f' H1 → va_S A H0 H1 locs1 → W p l e R s m args below meth c H1 locs1 (cells + mc) (slots + ms) Q (F0 m (pc + 3) la ((r.map (tw_v b z)).toList ++ rest))) : W p l e R s m args below meth c H locs cells slots Q (F0 m pc la st0) := by
  intro T hT X
  obtain ⟨v, st₀, t, T', L2, h0, X', hL, e1, e2, ⟨⟨f', r, hv, hp, hw⟩, hz, hk⟩, stp⟩ := hr T hT X
  cases hv
  rw [h0] at hz hk
  obtain ⟨t2, a1, b1⟩ := kk f' r T'.heap (locs ++ L2) hp (by rw [e1]; exact hw)
    ⟨Nat.le_trans hS.1 (by rw [e1]; exact hz), fun q h1 h2 => by rw [e1, hk q (Nat.lt_of_lt_of_le h1 hS.1) h2]; exact hS.2.1 q h1 h2, fun q hq => by
      rcases List.mem_append.mp hq with h | h
      · exact hS.2.2 q h
      · exact hL q h⟩ T' rfl X'
  exact ⟨t2, stp t2 a1, b1⟩
theorem tg_call {L' : tw_L} {st0 rest : List tw_A} {a : Array Value} (h1 : L.length ≤ L'.length) (h2 : tw_sl L ≤ tw_sl L')
    (hr : ∀ (H : Heap) (locs : List Loc) (la : Array Slot), n0 ≤ (L.length : Int) → s0 ≤ ((tw_sl L : Nat) : Int) → tw_W cl ft D cA b fl L f H → la.size = nL → va_Run p l e R s m args below meth c H locs ((((L.length : Nat) : Int) - n0).toNat) ((((tw_sl L : Nat) : Int) - s0).toNat) (L'.length - L.length) (tw_sl L' - tw_sl L) (F0 m pc la (st0.map (tw_v b z))) (rest.map (tw_v b z)) (tw_Qc cl ft D cA b z A fl L' P a) A)
    (kk : ∀ (f' : tw_S) (r : Option tw_A), P f' r → tw_G p l e R s m args below meth c Q cl ft D cA b z nL n0 s0 A fl (pc + 3) ls (r.toList ++ rest) L' f') : tw_G p l e R s m args below meth c Q cl ft D cA b z nL n0 s0 A fl pc ls st0 L f := by
  intro H locs la g1 g2 hW hS hh
  refine tw_callW (hr H locs la g1 g2 hW hh.1) hS (fun f' r H1 locs1 hP hW1 hS1 => ?_)
  have h9 := kk f' r hP H1 locs1 la (by omega) (by omega) hW1 hS1 hh
  have a1 : (((L.length : Nat) : Int) - n0).toNat + (L'.length - L.length) = (((L'.length : Nat) : Int) - n0).toNat := by omega
  have a2 : (((tw_sl L : Nat) : Int) - s0).toNat + (tw_sl L' - tw_sl L) = (((tw_sl L' : Nat) : Int) - s0).toNat := by omega
  rw [a1, a2]
  have a3 : ((r.toList ++ rest).map (tw_v b z)) = (r.map (tw_v b z)).toList ++ rest.map (tw_v b z) := by
    rw [List.map_append]
    cases r <;> rfl
  rw [a3] at h9
  exact h9
theorem tw_room {g : JFrame} {rest : List tw_A} (hg : g.monitorRoom = 0) (h : (rest.map tw_ct).sum ≤ 8) : 2 * g.monitorRoom + ((rest.map (tw_v b z)).map fun v => v.category).sum ≤ 8 := by
  rw [List.map_map]
  have h2 : ((fun v : Value => v.category) ∘ tw_v b z) = tw_ct := by
    funext a
    exact tw_ct_v b z a
  rw [h2, hg]
  omega
/-- a method's end at the machine: from a contract to a run, for each kind of call -/
theorem tr_V {Ts ws : List Cond} {own C : String} {y : MethodName} {bytes : ByteArray} {maxL idx n q ci nn : Nat} {ret : Option FieldType} {rm : Room} {L' : tw_L} {As rest : List tw_A} {rs : List (Option Nat)} {r : vw_C} {H : Heap} {locs : List Loc} {la : Array Slot} {mc ms cells slots : Nat}
    (S : CallFix p m c cc nL s args Ts own) (hM : Met l y ws rm (tw_Pc cl ft D cA tys Nm b z fl (tw_R q :: As) L f) (tw_Qc cl ft D cA b z A fl L' P) mc ms A) (cw : CallW R s args own C idx y bytes maxL ret ws rm mc ms n) (hK : va_K D cl tys s) (hN : ∀ x ∈ Nm, va_Nw (.methodLinkNest x.1 x.2.1 x.2.2.1 x.2.2.2) s)
    (hq : L[q]? = some (ci, nn, rs)) (h100 : ci < 100) (hc : cl[ci]? = some r) (hC : r.1 = C) (hW : tw_W cl ft D cA b fl L f H) (hla : la.size = nL) (hn : As.length = n) (hrest : (rest.map tw_ct).sum ≤ 8) (hd : decode cc pc = .ok (.invokevirtual idx, 3)) (hf : cells + mc ≤ R.cells ∧ slots + ms ≤ R.slots) :
    va_Run p l e R s m args below meth c H locs cells slots mc ms (F0 m pc la ((As.reverse ++ tw_R q :: rest).map (tw_v b z))) (rest.map (tw_v b z)) (tw_Qc cl ft D cA b z A fl L' P (Value.ref (b + q) :: As.map (tw_v b z)).toArray) A := by
  have he : (tw_ws ft cA b L f)[q]? = some (b + q, .inr (ci, tw_fs ft b q (ci, nn, rs) f)) := by
    rw [tw_ws_at hq, tw_e_obj h100]
  have hrec := va_recv hK hW.1 hc he
  rw [hC] at hrec
  exact va_runV S hM cw ⟨tw_blind, hrec, fun U hU hWm => ⟨rfl, by rw [hU]; exact hW, va_K.moved hWm.alike hK, fun x hx => va_Nw.warmM hWm (hN x hx)⟩⟩ rfl (by rw [List.length_map]; exact hn) hla (by show ((As.reverse ++ tw_R q :: rest).map (tw_v b z)) = _; rw [List.map_append, List.map_reverse]; rfl) (tw_room rfl hrest) hd hf
theorem tr_VN {Ts ws : List Cond} {own C host : String} {y : MethodName} {bytes : ByteArray} {maxL idx n q ci nn : Nat} {ret : Option FieldType} {rm : Room} {L' : tw_L} {As rest : List tw_A} {rs : List (Option Nat)} {r : vw_C} {H : Heap} {locs : List Loc} {la : Array Slot} {mc ms cells slots : Nat}
    (S : CallFix p m c cc nL s args Ts own) (hM : Met l y ws rm (tw_Pc cl ft D cA tys Nm b z fl (tw_R q :: As) L f) (tw_Qc cl ft D cA b z A fl L' P) mc ms A) (cw : va_CN R s args own idx y host bytes maxL ret ws rm mc ms n ∧ (Cond.instanceMethod y).before args s = true ∧ (Cond.selects C y y).before args s = true) (hK : va_K D cl tys s) (hN : ∀ x ∈ Nm, va_Nw (.methodLinkNest x.1 x.2.1 x.2.2.1 x.2.2.2) s)
    (hq : L[q]? = some (ci, nn, rs)) (h100 : ci < 100) (hc : cl[ci]? = some r) (hC : r.1 = C) (hW : tw_W cl ft D cA b fl L f H) (hla : la.size = nL) (hn : As.length = n) (hrest : (rest.map tw_ct).sum ≤ 8) (hd : decode cc pc = .ok (.invokevirtual idx, 3)) (hf : cells + mc ≤ R.cells ∧ slots + ms ≤ R.slots) :
    va_Run p l e R s m args below meth c H locs cells slots mc ms (F0 m pc la ((As.reverse ++ tw_R q :: rest).map (tw_v b z))) (rest.map (tw_v b z)) (tw_Qc cl ft D cA b z A fl L' P (Value.ref (b + q) :: As.map (tw_v b z)).toArray) A := by
  have he : (tw_ws ft cA b L f)[q]? = some (b + q, .inr (ci, tw_fs ft b q (ci, nn, rs) f)) := by
    rw [tw_ws_at hq, tw_e_obj h100]
  have hrec := va_recv hK hW.1 hc he
  rw [hC] at hrec
  exact va_runVN S hM cw ⟨tw_blind, hrec, fun U hU hWm => ⟨rfl, by rw [hU]; exact hW, va_K.moved hWm.alike hK, fun x hx => va_Nw.warmM hWm (hN x hx)⟩⟩ rfl (by rw [List.length_map]; exact hn) hla (by show ((As.reverse ++ tw_R q :: rest).map (tw_v b z)) = _; rw [List.map_append, List.map_reverse]; rfl) (tw_room rfl hrest) hd hf
theorem tr_S {Ts ws : List Cond} {own : String} {y : MethodName} {bytes : ByteArray} {maxL idx n : Nat} {ret : Option FieldType} {rm : Room} {L' : tw_L} {As rest : List tw_A} {H : Heap} {locs : List Loc} {la : Array Slot} {mc ms cells slots : Nat}
    (S : CallFix p m c cc nL s args Ts own) (hM : Met l y ws rm (tw_Pc cl ft D cA tys Nm b z fl As L f) (tw_Qc cl ft D cA b z A fl L' P) mc ms A) (cw : CallB R s args own idx y bytes maxL ret ws rm mc ms n ∧ (Cond.static y).before args s = true) (hK : va_K D cl tys s) (hN : ∀ x ∈ Nm, va_Nw (.methodLinkNest x.1 x.2.1 x.2.2.1 x.2.2.2) s)
    (hW : tw_W cl ft D cA b fl L f H) (hla : la.size = nL) (hn : As.length = n) (hrest : (rest.map tw_ct).sum ≤ 8) (hd : decode cc pc = .ok (.invokestatic idx, 3)) (hf : cells + mc ≤ R.cells ∧ slots + ms ≤ R.slots) :
    va_Run p l e R s m args below meth c H locs cells slots mc ms (F0 m pc la ((As.reverse ++ rest).map (tw_v b z))) (rest.map (tw_v b z)) (tw_Qc cl ft D cA b z A fl L' P (As.map (tw_v b z)).toArray) A :=
  va_runS S hM cw ⟨tw_blind, fun U hU hWm => ⟨rfl, by rw [hU]; exact hW, va_K.moved hWm.alike hK, fun x hx => va_Nw.warmM hWm (hN x hx)⟩⟩ rfl (by rw [List.length_map]; exact hn) hla (by show ((As.reverse ++ rest).map (tw_v b z)) = _; rw [List.map_append, List.map_reverse]) (tw_room rfl hrest) hd hf
theorem tr_SN {Ts ws : List Cond} {own host : String} {y : MethodName} {bytes : ByteArray} {maxL idx n : Nat} {ret : Option FieldType} {rm : Room} {L' : tw_L} {As rest : List tw_A} {H : Heap} {locs : List Loc} {la : Array Slot} {mc ms cells slots : Nat}
    (S : CallFix p m c cc nL s args Ts own) (hM : Met l y ws rm (tw_Pc cl ft D cA tys Nm b z fl As L f) (tw_Qc cl ft D cA b z A fl L' P) mc ms A) (cw : va_CN R s args own idx y host bytes maxL ret ws rm mc ms n ∧ (Cond.static y).before args s = true ∧ True) (hK : va_K D cl tys s) (hN : ∀ x ∈ Nm, va_Nw (.methodLinkNest x.1 x.2.1 x.2.2.1 x.2.2.2) s)
    (hW : tw_W cl ft D cA b fl L f H) (hla : la.size = nL) (hn : As.length = n) (hrest : (rest.map tw_ct).sum ≤ 8) (hd : decode cc pc = .ok (.invokestatic idx, 3)) (hf : cells + mc ≤ R.cells ∧ slots + ms ≤ R.slots) :
    va_Run p l e R s m args below meth c H locs cells slots mc ms (F0 m pc la ((As.reverse ++ rest).map (tw_v b z))) (rest.map (tw_v b z)) (tw_Qc cl ft D cA b z A fl L' P (As.map (tw_v b z)).toArray) A :=
  va_runSN S hM cw ⟨tw_blind, fun U hU hWm => ⟨rfl, by rw [hU]; exact hW, va_K.moved hWm.alike hK, fun x hx => va_Nw.warmM hWm (hN x hx)⟩⟩ rfl (by rw [List.length_map]; exact hn) hla (by show ((As.reverse ++ rest).map (tw_v b z)) = _; rw [List.map_append, List.map_reverse]) (tw_room rfl hrest) hd hf
theorem tr_I {Ts ws : List Cond} {own : String} {y : MethodName} {bytes : ByteArray} {maxL idx n q : Nat} {rm : Room} {L' : tw_L} {As rest : List tw_A} {H : Heap} {locs : List Loc} {la : Array Slot} {mc ms cells slots : Nat}
    (S : CallFix p m c cc nL s args Ts own) (hM : Met l y ws rm (tw_Pc cl ft D cA tys Nm b z fl (tw_R q :: As) L f) (tw_Qc cl ft D cA b z A fl L' P) mc ms A) (cw : CallB R s args own idx y bytes maxL none ws rm mc ms n ∧ y.name = "<init>" ∧ (Cond.instanceMethod y).before args s = true) (hK : va_K D cl tys s) (hN : ∀ x ∈ Nm, va_Nw (.methodLinkNest x.1 x.2.1 x.2.2.1 x.2.2.2) s)
    (hW : tw_W cl ft D cA b fl L f H) (hla : la.size = nL) (hn : As.length = n) (hrest : (rest.map tw_ct).sum ≤ 8) (hd : decode cc pc = .ok (.invokespecial idx, 3)) (hf : cells + mc ≤ R.cells ∧ slots + ms ≤ R.slots) :
    va_Run p l e R s m args below meth c H locs cells slots mc ms (F0 m pc la ((As.reverse ++ tw_R q :: rest).map (tw_v b z))) (rest.map (tw_v b z)) (tw_Qc cl ft D cA b z A fl L' P (Value.ref (b + q) :: As.map (tw_v b z)).toArray) A :=
  va_runI S hM cw ⟨tw_blind, fun U hU hWm => ⟨rfl, by rw [hU]; exact hW, va_K.moved hWm.alike hK, fun x hx => va_Nw.warmM hWm (hN x hx)⟩⟩ rfl (by rw [List.length_map]; exact hn) hla (by show ((As.reverse ++ tw_R q :: rest).map (tw_v b z)) = _; rw [List.map_append, List.map_reverse]; rfl) (tw_room rfl hrest) hd hf
theorem tr_IN {Ts ws : List Cond} {own host : String} {y : MethodName} {bytes : ByteArray} {maxL idx n q : Nat} {rm : Room} {L' : tw_L} {As rest : List tw_A} {H : Heap} {locs : List Loc} {la : Array Slot} {mc ms cells slots : Nat}
    (S : CallFix p m c cc nL s args Ts own) (hM : Met l y ws rm (tw_Pc cl ft D cA tys Nm b z fl (tw_R q :: As) L f) (tw_Qc cl ft D cA b z A fl L' P) mc ms A) (cw : va_CN R s args own idx y host bytes maxL none ws rm mc ms n ∧ y.name = "<init>" ∧ (Cond.instanceMethod y).before args s = true) (hK : va_K D cl tys s) (hN : ∀ x ∈ Nm, va_Nw (.methodLinkNest x.1 x.2.1 x.2.2.1 x.2.2.2) s)
    (hW : tw_W cl ft D cA b fl L f H) (hla : la.size = nL) (hn : As.length = n) (hrest : (rest.map tw_ct).sum ≤ 8) (hd : decode cc pc = .ok (.invokespecial idx, 3)) (hf : cells + mc ≤ R.cells ∧ slots + ms ≤ R.slots) :
    va_Run p l e R s m args below meth c H locs cells slots mc ms (F0 m pc la ((As.reverse ++ tw_R q :: rest).map (tw_v b z))) (rest.map (tw_v b z)) (tw_Qc cl ft D cA b z A fl L' P (Value.ref (b + q) :: As.map (tw_v b z)).toArray) A :=
  va_runIN S hM cw ⟨tw_blind, fun U hU hWm => ⟨rfl, by rw [hU]; exact hW, va_K.moved hWm.alike hK, fun x hx => va_Nw.warmM hWm (hN x hx)⟩⟩ rfl (by rw [List.length_map]; exact hn) hla (by show ((As.reverse ++ tw_R q :: rest).map (tw_v b z)) = _; rw [List.map_append, List.map_reverse]; rfl) (tw_room rfl hrest) hd hf
end CALLS
