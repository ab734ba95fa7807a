/-! The tables' facts, and the closure of the machine under the rules. -/
abbrev tw_my (r : tw_MR) : MethodName := r.2.2.1
def tw_mok (cl : List vw_C) (mt : List tw_MR) (sw : tw_SW) (lk : tw_LK) (nm : Nat → String) (Ts : List Cond) (r : tw_MR) : Prop :=
  (r.2.1 = nm r.1 ∧ (tw_my r).cls = r.2.1 ∧ plainName (tw_my r).cls = true ∧ Cond.code (tw_my r) r.2.2.2.1 r.2.2.2.2.1 r.2.2.2.2.2.1 ∈ Ts ∧ Cond.initialized (tw_my r).cls ∈ Ts) ∧
  ((tw_my r).cls ≠ "java/lang/invoke/MethodHandle" ∧ (tw_my r).cls ≠ "java/lang/invoke/VarHandle" ∧ (parseMethodDescriptor (tw_my r).desc).map (fun d => d.parameters.length) = some r.2.2.2.2.2.2.1.2.2.1) ∧
  (tw_pc r.2.2.2.2.2.2.2 0 = 0 ∧ tw_cm lk mt sw r = true) ∧
  (r.2.2.2.2.2.2.1.1 = 0 → Cond.static (tw_my r) ∈ Ts) ∧
  (r.2.2.2.2.2.2.1.1 = 1 → Cond.instanceMethod (tw_my r) ∈ Ts ∧ Cond.selects (tw_my r).cls (tw_my r) (tw_my r) ∈ Ts ∧ ∃ x, cl[r.2.2.2.2.2.2.1.2.1]? = some x ∧ x.1 = (tw_my r).cls) ∧
  (r.2.2.2.2.2.2.1.1 = 2 → (tw_my r).name = "<init>" ∧ Cond.instanceMethod (tw_my r) ∈ Ts ∧ r.2.2.2.2.2.1 = none ∧ ∃ x, cl[r.2.2.2.2.2.2.1.2.1]? = some x ∧ x.1 = (tw_my r).cls)
def tw_OK (cl : List vw_C) (ft : Nat → Nat → Nat) (ty : Nat → Nat → FieldType) (mt : List tw_MR) (sw : tw_SW) (lk : tw_LK) (nm : Nat → String) (Ts : List Cond) (Nm : List tw_N) : Prop :=
  (∀ (ci : Nat) (x : vw_C), cl[ci]? = some x → tw_C ft Ts ci x (ty ci)) ∧
  (∀ x ∈ lk.1, ∃ r, cl[x.2.2.1]? = some r ∧ x.2.2.2.1 < r.2.2 ∧ Cond.fieldLink (nm x.1) x.2.1 (r.2.1 x.2.2.2.1).1 (r.2.1 x.2.2.2.1).2.1 (r.2.1 x.2.2.2.1).2.2.1 ∈ Ts ∧ (x.2.2.2.2 = 0 → (r.2.1 x.2.2.2.1).2.2.2 = false) ∧ (x.2.2.2.2 = 1 → (r.2.1 x.2.2.2.1).2.2.2 = true ∧ (r.2.1 x.2.2.2.1).1 = r.1)) ∧
  (∀ x ∈ lk.2.1, ∃ r, mt[x.2.2]? = some r ∧ (Cond.methodLink (nm x.1) x.2.1 (tw_my r) ∈ Ts ∨ ∃ host, (nm x.1, x.2.1, tw_my r, host) ∈ Nm)) ∧
  (∀ x ∈ lk.2.2.1, ∃ r, cl[x.2.2.1]? = some r ∧ x.2.2.2 = r.2.2 ∧ Cond.classLink (nm x.1) x.2.1 r.1 ∈ Ts ∧ Cond.instantiable r.1 r.2.2 ∈ Ts ∧ Cond.initialized r.1 ∈ Ts) ∧
  (∀ x ∈ lk.2.2.2.1, Cond.methodLink (nm x.1) x.2 Lib.objectInit ∈ Ts ∧ Cond.instanceMethod Lib.objectInit ∈ Ts ∧ Cond.code Lib.objectInit ⟨#[0xb1]⟩ 1 none ∈ Ts) ∧
  (∀ x ∈ lk.2.2.2.2, Cond.methodLink (nm x.1) x.2 Lib.Math.max.name ∈ Ts ∧ Cond.static Lib.Math.max.name ∈ Ts ∧ Cond.initialized "java/lang/Math" ∈ Ts ∧ Cond.code Lib.Math.max.name Lib.Math.max.code 2 (some .int) ∈ Ts) ∧
  (∀ a, a = 100 ∨ a = 101 ∨ a = 102 → Cond.arrayClass (tw_ty a) ∈ Ts) ∧
  (∀ w ∈ Ts, (w.onTables && w.keeps) = true ∨ ∃ t, w = .arrayClass t) ∧
  (∀ (k : Nat) (r : tw_MR), mt[k]? = some r → tw_mok cl mt sw lk nm Ts r)
/-- what the walk of a method asks of its row -/
def tw_mw (cl : List vw_C) (mt : List tw_MR) (sw : tw_SW) (lk : tw_LK) (nm : Nat → String) (r : tw_MR) : Prop :=
  r.2.1 = nm r.1 ∧ (tw_my r).cls = r.2.1 ∧ tw_cm lk mt sw r = true ∧ (r.2.2.2.2.2.2.1.1 = 2 → (tw_my r).name = "<init>" ∧ ∃ x, cl[r.2.2.2.2.2.2.1.2.1]? = some x ∧ x.1 = (tw_my r).cls)
theorem tw_mok.mw {cl : List vw_C} {mt : List tw_MR} {sw : tw_SW} {lk : tw_LK} {nm : Nat → String} {Ts : List Cond} {r : tw_MR} (h : tw_mok cl mt sw lk nm Ts r) : tw_mw cl mt sw lk nm r := ⟨h.1.1, h.1.2.1, h.2.2.1.2, fun g => ⟨(h.2.2.2.2.2 g).1, (h.2.2.2.2.2 g).2.2.2⟩⟩
theorem tw_pc_at {t : tw_T} {ix : Nat} {x : Nat × tw_O} (h : t[ix]? = some x) : tw_pc t ix = x.1 := by
  unfold tw_pc
  rw [h]
theorem tw_ck_at {lk : tw_LK} {mt : List tw_MR} {sw : tw_SW} {r : tw_MR} (h : tw_cm lk mt sw r = true) {ix : Nat} {x : Nat × tw_O} (hx : r.2.2.2.2.2.2.2[ix]? = some x) (hne : Nat.beq x.2.1 99 = false) :
    decode r.2.2.2.1 x.1 = .ok (tw_x r.2.2.2.2.2.2.2 sw ix x.1 x.2) ∧ (tw_th x.2 = true → tw_pc r.2.2.2.2.2.2.2 (ix + 1) = x.1 + (tw_x r.2.2.2.2.2.2.2 sw ix x.1 x.2).2) ∧ tw_wd lk mt sw r x.2 = true := by
  unfold tw_cm at h
  have h1 := List.all_eq_true.mp h (x, ix) (by
    refine List.mem_of_getElem? (i := ix) ?_
    rw [List.getElem?_zipIdx, hx]
    simp)
  have h2 : tw_ck lk mt sw r ix x = true := h1
  unfold tw_ck at h2
  rw [hne, Bool.false_or, Bool.and_eq_true, Bool.and_eq_true] at h2
  refine ⟨of_decide_eq_true h2.1.1, fun g => ?_, h2.2⟩
  have h3 := h2.1.2
  rw [g] at h3
  exact of_decide_eq_true h3
theorem tw_kd_of {mt : List tw_MR} {k d q : Nat} {r : tw_MR} (hr : mt[k]? = some r) (h : tw_kd mt k d q = true) : r.2.2.2.2.2.2.1.1 = d ∧ r.2.2.2.2.2.2.1.2.1 = q := by
  unfold tw_kd at h
  rw [hr] at h
  have h' := Bool.and_eq_true_iff.mp h
  exact ⟨of_decide_eq_true h'.1, of_decide_eq_true h'.2⟩
theorem tw_na_of {mt : List tw_MR} {k : Nat} {r : tw_MR} (hr : mt[k]? = some r) : tw_na mt k = r.2.2.2.2.2.2.1.2.2.1 := by
  unfold tw_na
  rw [hr]
def tw_rm (r : tw_MR) (L L2 : tw_L) : Room := { frames := r.2.2.2.2.2.2.1.2.2.2.1, cells := L2.length - L.length, slots := tw_sl L2 - tw_sl L, locals := r.2.2.2.2.2.2.1.2.2.2.2 }
theorem tw_fit_of {mt : List tw_MR} {k : Nat} {r r2 : tw_MR} (hr : mt[k]? = some r2) (h : tw_fit mt k r = true) : r2.2.2.2.2.2.2.1.2.2.2.1 + 1 ≤ r.2.2.2.2.2.2.1.2.2.2.1 ∧ 8 + (r2.2.2.2.2.1 + 11) + r2.2.2.2.2.2.2.1.2.2.2.2 ≤ r.2.2.2.2.2.2.1.2.2.2.2 := by
  unfold tw_fit at h
  rw [hr] at h
  exact of_decide_eq_true h
def tw_MT (l : Launch) (cl : List vw_C) (ft : Nat → Nat → Nat) (mt : List tw_MR) (Ts : List Cond) (Nm : List tw_N) (D : va_G) (cA : Nat → ClassId) (tys : List (ClassId × FieldType)) (b z : Nat) (A : Nat → Prop) (fl : Bool) (Sp : tw_SP) : Prop :=
  ∀ (k : Nat) (As : List tw_A) (L : tw_L) (f : tw_S) (L2 : tw_L) (P : tw_S → Option tw_A → Prop), Sp k As L f L2 P → ∀ r, mt[k]? = some r →
    Met l (tw_my r) (Cond.code (tw_my r) r.2.2.2.1 r.2.2.2.2.1 r.2.2.2.2.2.1 :: Ts) (tw_rm r L L2) (tw_Pc cl ft D cA tys Nm b z fl As L f) (tw_Qc cl ft D cA b z A fl L2 P) (L2.length - L.length) (tw_sl L2 - tw_sl L) A
section CLOSED
variable {p : Program} {l : Launch} {e : Env} {R : Room} {s : State} {m : MethodId} {args : Array Value} {below : List Frame} {meth : Method} {c : Code} {Q : State → Prop} {cl : List vw_C} {ft : Nat → Nat → Nat} {D : va_G} {cA : Nat → ClassId} {b z nL : Nat} {n0 s0 : Int} {A : Nat → Prop} {fl : Bool} {ls : List (Option tw_A)} {st : List tw_A} {L : tw_L} {f : tw_S} {tys : List (ClassId × FieldType)} {Nm : List tw_N}
theorem tw_G_mono {Q2 : State → Prop} {pc : Nat} (h : ∀ t, Q t → Q2 t) (k : tw_G p l e R s m args below meth c Q cl ft D cA b z nL n0 s0 A fl pc ls st L f) : tw_G p l e R s m args below meth c Q2 cl ft D cA b z nL n0 s0 A fl pc ls st L f := by
  intro H locs la g1 g2 hW hS hh T hT X
  obtain ⟨t, a1, a2⟩ := k H locs la g1 g2 hW hS hh T hT X
  exact ⟨t, a1, h t a2⟩
theorem tw_G_down {pc : Nat} (k : tw_G p l e R s m args below meth c Q cl ft D cA b z nL n0 s0 A false pc ls st L f) : tw_G p l e R s m args below meth c Q cl ft D cA b z nL n0 s0 A fl pc ls st L f := fun H locs la g1 g2 hW hS hh => k H locs la g1 g2 hW.down hS hh
theorem tw_cgr {pc pc2 : Nat} (h : pc = pc2) (k : tw_G p l e R s m args below meth c Q cl ft D cA b z nL n0 s0 A fl pc2 ls st L f) : tw_G p l e R s m args below meth c Q cl ft D cA b z nL n0 s0 A fl pc ls st L f := h ▸ k
theorem tw_good {Ts : List Cond} (hG : ∀ w ∈ Ts, (w.onTables && w.keeps) = true ∨ ∃ t, w = .arrayClass t) {y : MethodName} {bytes : ByteArray} {ml : Nat} {rt : Option FieldType} (h : Cond.code y bytes ml rt ∈ Ts) : GoodIn Ts (Cond.code y bytes ml rt :: Ts) := by
  intro w hw
  rcases List.mem_cons.mp hw with rfl | hw
  · exact ⟨h, hG _ h⟩
  · exact ⟨hw, hG _ hw⟩
end CLOSED
section SWITCH
variable {p : Program} {l : Launch} {e : Env} {R : Room} {s : State} {m : MethodId} {args : Array Value} {below : List Frame} {meth : Method} {c : Code} {Q : State → Prop} {cl : List vw_C} {ft : Nat → Nat → Nat} {D : va_G} {cA : Nat → ClassId} {b z nL : Nat} {n0 s0 : Int} {A : Nat → Prop} {fl : Bool} {ls : List (Option tw_A)} {st : List tw_A} {L : tw_L} {f : tw_S}
theorem tg_switch (hx : p.tables.exec = Jvm.exec) {cc : ByteArray} (hb : c.code = cc) {pc df len : Nat} {ts : List Nat} {t : tw_T} {x : Int32} (hd : decode cc pc = .ok (.tableswitch ((tw_pc t df : Int) - (pc : Int)) 0 (0 + (ts.length : Int) - 1) (ts.map (fun j => (tw_pc t j : Int) - (pc : Int))).toArray, len)) (h0 : 0 < ts.length) (h1 : ts.length < 1000)
    (kk : tw_G p l e R s m args below meth c Q cl ft D cA b z nL n0 s0 A fl (tw_pc t (tw_tg 0 ts df x)) ls st L f) : tw_G p l e R s m args below meth c Q cl ft D cA b z nL n0 s0 A fl pc ls (tw_I x :: st) L f := by
  intro H locs la g1 g2 hW hS hh
  have k2 := kk H locs la g1 g2 hW hS hh
  unfold tw_tg at k2
  by_cases hlo : x.toInt < 0
  · rw [if_pos hlo] at k2
    exact lv_tableOut hx hb hd (Or.inl hlo) (by omega) k2
  · rw [if_neg hlo] at k2
    by_cases hhi : 0 + (ts.length : Int) - 1 < x.toInt
    · have h2 : ts.getD (x.toInt - 0).toNat df = df := by
        rw [List.getD_eq_getElem?_getD, List.getElem?_eq_none (by omega)]
        rfl
      rw [h2] at k2
      exact lv_tableOut hx hb hd (Or.inr hhi) (by omega) k2
    · have hlt : (x.toInt - 0).toNat < ts.length := by omega
      have h2 : ts.getD (x.toInt - 0).toNat df = ts[(x.toInt - 0).toNat] := by
        rw [List.getD_eq_getElem?_getD, List.getElem?_eq_getElem hlt]
        rfl
      rw [h2] at k2
      refine lv_tableIn hx hb hd hlo hhi (off := (tw_pc t ts[(x.toInt - 0).toNat] : Int) - (pc : Int)) ?_ (by omega) k2
      rw [List.getElem?_toArray, List.getElem?_map, List.getElem?_eq_getElem hlt]
      rfl
end SWITCH
set_option maxHeartbeats 4000000 in
theorem tw_closed {p : Program} {l : Launch} {e : Env} {R : Room} {s : State} {m : MethodId} {args : Array Value} {below : List Frame} {meth : Method} {c : Code} {cl : List vw_C} {ft : Nat → Nat → Nat} {ty : Nat → Nat → FieldType} {mt : List tw_MR} {sw : tw_SW} {lk : tw_LK} {nm : Nat → String} {Ts : List Cond} {Nm : List tw_N} {D : va_G} {cA : Nat → ClassId} {b z : Nat} {n0 s0 : Int} {A : Nat → Prop} {fl : Bool} {xs : Option (Nat × (Nat → Int32))} {Sp : tw_SP} {Lf : tw_L} {P : tw_S → Option tw_A → Prop} {r : tw_MR} {Q : State → Prop}
    (hOK : tw_OK cl ft ty mt sw lk nm Ts Nm) (hr : tw_mw cl mt sw lk nm r) (hx : p.tables.exec = Jvm.exec) (hb : c.code = r.2.2.2.1) (hml : c.maxLocals = r.2.2.2.2.1) (hret : meth.sig.returnType = r.2.2.2.2.2.1) (hlocks : meth.locks = false) (hname : meth.name = (tw_my r).name) (hts : ∀ w ∈ Ts, w.before args s = true) (hown : s.vm.findClass (nm r.1) = some m.cls) (hK : va_K D cl [(cA 100, .int), (cA 101, .boolean), (cA 102, .long)] s) (hN : ∀ x ∈ Nm, va_Nw (.methodLinkNest x.1 x.2.1 x.2.2.1 x.2.2.2) s)
    (hb0 : b ≤ s.heap.size) (hxs : ∀ N g, xs = some (N, g) → va_X z N g s s.heap ∧ z < s.heap.size ∧ ¬ A z) (hA : ∀ (ix : Nat) (x : Nat × tw_O), r.2.2.2.2.2.2.2[ix]? = some x → x.2.1 = 28 ∨ x.2.1 = 29 ∨ x.2.1 = 30 ∨ x.2.1 = 33 ∨ x.2.1 = 34 → ∀ y, b ≤ y → A y)
    (hRf : r.2.2.2.2.2.2.1.2.2.2.1 ≤ R.frames) (hRl : r.2.2.2.2.2.2.1.2.2.2.2 ≤ R.locals) (hRc : (((Lf.length : Nat) : Int) - n0).toNat ≤ R.cells) (hRs : (((tw_sl Lf : Nat) : Int) - s0).toNat ≤ R.slots) (hQ : ∀ t, MQ below (tw_Qc cl ft D cA b z A fl Lf P) args s ((((Lf.length : Nat) : Int) - n0).toNat) ((((tw_sl Lf : Nat) : Int) - s0).toNat) A t → Q t) (IH : tw_MT l cl ft mt Ts Nm D cA [(cA 100, .int), (cA 101, .boolean), (cA 102, .long)] b z A fl Sp) :
    tw_Cl mt sw ft fl xs Sp Lf P r.2.2.2.2.2.2.2 (fun ix ls st L f => tw_G p l e R s m args below meth c Q cl ft D cA b z r.2.2.2.2.1 n0 s0 A fl (tw_pc r.2.2.2.2.2.2.2 ix) ls st L f) := by
  obtain ⟨hOC, hOF, hOM, hON, hOO, hOX, hOA, hOG, hOR⟩ := hOK
  have hck : ∀ {ix : Nat} {x : Nat × tw_O}, r.2.2.2.2.2.2.2[ix]? = some x → Nat.beq x.2.1 99 = false → decode r.2.2.2.1 x.1 = .ok (tw_x r.2.2.2.2.2.2.2 sw ix x.1 x.2) ∧ (tw_th x.2 = true → tw_pc r.2.2.2.2.2.2.2 (ix + 1) = x.1 + (tw_x r.2.2.2.2.2.2.2 sw ix x.1 x.2).2) ∧ tw_wd lk mt sw r x.2 = true := fun h g => tw_ck_at hr.2.2.1 h g
  refine ⟨?_, ?_, ?_, ?_, ?_, ?_, ?_, ?_, ?_, ?_, ?_, ?_, ?_, ?_, ?_, ?_, ?_, ?_, ?_, ?_, ?_, ?_, ?_, ?_, ?_, ?_, ?_, ?_, ?_, ?_, ?_, ?_, ?_, ?_, ?_, ?_, ?_, ?_, ?_, ?_, ?_, ?_, ?_, ?_, ?_, ?_, ?_, ?_, ?_, ?_, ?_, ?_, ?_⟩
  · intro ix pc a b1 c1 n v ls st L f x ht hl k
    have hd : decode r.2.2.2.1 pc = .ok (.iload_n (Fin.ofNat 4 a), 1) := (hck ht rfl).1
    have hn : tw_pc r.2.2.2.2.2.2.2 (ix + 1) = pc + 1 := (hck ht rfl).2.1 rfl
    have hw : a < 4 := of_decide_eq_true (hck ht rfl).2.2
    exact tw_cgr (tw_pc_at ht) (tg_iload_n hx hb hd (Nat.mod_eq_of_lt hw) hl (tw_cgr hn.symm k))
  · intro ix pc a b1 c1 n v ls st L f x ht hl k
    have hd : decode r.2.2.2.1 pc = .ok (.iload a, 2) := (hck ht rfl).1
    have hn : tw_pc r.2.2.2.2.2.2.2 (ix + 1) = pc + 2 := (hck ht rfl).2.1 rfl
    exact tw_cgr (tw_pc_at ht) (tg_iload hx hb hd hl (tw_cgr hn.symm k))
  · intro ix pc a b1 c1 n v ls st L f q ht hl k
    have hd : decode r.2.2.2.1 pc = .ok (.aload_n (Fin.ofNat 4 a), 1) := (hck ht rfl).1
    have hn : tw_pc r.2.2.2.2.2.2.2 (ix + 1) = pc + 1 := (hck ht rfl).2.1 rfl
    have hw : a < 4 := of_decide_eq_true (hck ht rfl).2.2
    exact tw_cgr (tw_pc_at ht) (tg_aload_n hx hb hd (Nat.mod_eq_of_lt hw) hl (tw_cgr hn.symm k))
  · intro ix pc a b1 c1 n v ls st L f q ht hl k
    have hd : decode r.2.2.2.1 pc = .ok (.aload a, 2) := (hck ht rfl).1
    have hn : tw_pc r.2.2.2.2.2.2.2 (ix + 1) = pc + 2 := (hck ht rfl).2.1 rfl
    exact tw_cgr (tw_pc_at ht) (tg_aload hx hb hd hl (tw_cgr hn.symm k))
  · intro ix pc a b1 c1 n v ls st L f ht k
    have hd : decode r.2.2.2.1 pc = .ok (.iconst n, 1) := (hck ht rfl).1
    have hn : tw_pc r.2.2.2.2.2.2.2 (ix + 1) = pc + 1 := (hck ht rfl).2.1 rfl
    have hw : Int32.ofInt n = v := of_decide_eq_true (hck ht rfl).2.2
    exact tw_cgr (tw_pc_at ht) (tg_iconst hx hb hd hw (tw_cgr hn.symm k))
  · intro ix pc a b1 c1 n v ls st L f ht k
    have hd : decode r.2.2.2.1 pc = .ok (.bipush n, 2) := (hck ht rfl).1
    have hn : tw_pc r.2.2.2.2.2.2.2 (ix + 1) = pc + 2 := (hck ht rfl).2.1 rfl
    have hw : (Int8.ofInt n).toInt32 = v := of_decide_eq_true (hck ht rfl).2.2
    exact tw_cgr (tw_pc_at ht) (tg_bipush hx hb hd hw (tw_cgr hn.symm k))
  · intro ix pc a b1 c1 n v ls st L f ht k
    have hd : decode r.2.2.2.1 pc = .ok (.sipush n, 3) := (hck ht rfl).1
    have hn : tw_pc r.2.2.2.2.2.2.2 (ix + 1) = pc + 3 := (hck ht rfl).2.1 rfl
    have hw : (Int16.ofInt n).toInt32 = v := of_decide_eq_true (hck ht rfl).2.2
    exact tw_cgr (tw_pc_at ht) (tg_sipush hx hb hd hw (tw_cgr hn.symm k))
  · intro ix pc a b1 c1 n v ls st L f x ht hl k
    have hd : decode r.2.2.2.1 pc = .ok (.istore_n (Fin.ofNat 4 a), 1) := (hck ht rfl).1
    have hn : tw_pc r.2.2.2.2.2.2.2 (ix + 1) = pc + 1 := (hck ht rfl).2.1 rfl
    have hw : a < 4 := of_decide_eq_true (hck ht rfl).2.2
    exact tw_cgr (tw_pc_at ht) (tg_istore_n hx hb hd (Nat.mod_eq_of_lt hw) hl (tw_cgr hn.symm k))
  · intro ix pc a b1 c1 n v ls st L f x ht hl k
    have hd : decode r.2.2.2.1 pc = .ok (.istore a, 2) := (hck ht rfl).1
    have hn : tw_pc r.2.2.2.2.2.2.2 (ix + 1) = pc + 2 := (hck ht rfl).2.1 rfl
    exact tw_cgr (tw_pc_at ht) (tg_istore hx hb hd hl (tw_cgr hn.symm k))
  · intro ix pc a b1 c1 n v ls st L f q ht hl k
    have hd : decode r.2.2.2.1 pc = .ok (.astore_n (Fin.ofNat 4 a), 1) := (hck ht rfl).1
    have hn : tw_pc r.2.2.2.2.2.2.2 (ix + 1) = pc + 1 := (hck ht rfl).2.1 rfl
    have hw : a < 4 := of_decide_eq_true (hck ht rfl).2.2
    exact tw_cgr (tw_pc_at ht) (tg_astore_n hx hb hd (Nat.mod_eq_of_lt hw) hl (tw_cgr hn.symm k))
  · intro ix pc a b1 c1 n v ls st L f q ht hl k
    have hd : decode r.2.2.2.1 pc = .ok (.astore a, 2) := (hck ht rfl).1
    have hn : tw_pc r.2.2.2.2.2.2.2 (ix + 1) = pc + 2 := (hck ht rfl).2.1 rfl
    exact tw_cgr (tw_pc_at ht) (tg_astore hx hb hd hl (tw_cgr hn.symm k))
  · intro ix pc a b1 c1 n v ls st L f x ht hl k
    have hd : decode r.2.2.2.1 pc = .ok (.iinc a n, 3) := (hck ht rfl).1
    have hn : tw_pc r.2.2.2.2.2.2.2 (ix + 1) = pc + 3 := (hck ht rfl).2.1 rfl
    have hw : Int32.ofInt n = v := of_decide_eq_true (hck ht rfl).2.2
    exact tw_cgr (tw_pc_at ht) (tg_iinc hx hb hd hw hl (tw_cgr hn.symm k))
  · intro ix pc a b1 c1 n v ls st L f x y ht k
    have hd : decode r.2.2.2.1 pc = .ok (.iadd, 1) := (hck ht rfl).1
    have hn : tw_pc r.2.2.2.2.2.2.2 (ix + 1) = pc + 1 := (hck ht rfl).2.1 rfl
    exact tw_cgr (tw_pc_at ht) (tg_iadd hx hb hd (tw_cgr hn.symm k))
  · intro ix pc a b1 c1 n v ls st L f x y ht k
    have hd : decode r.2.2.2.1 pc = .ok (.isub, 1) := (hck ht rfl).1
    have hn : tw_pc r.2.2.2.2.2.2.2 (ix + 1) = pc + 1 := (hck ht rfl).2.1 rfl
    exact tw_cgr (tw_pc_at ht) (tg_isub hx hb hd (tw_cgr hn.symm k))
  · intro ix pc a b1 c1 n v ls st L f x y ht k
    have hd : decode r.2.2.2.1 pc = .ok (.imul, 1) := (hck ht rfl).1
    have hn : tw_pc r.2.2.2.2.2.2.2 (ix + 1) = pc + 1 := (hck ht rfl).2.1 rfl
    exact tw_cgr (tw_pc_at ht) (tg_imul hx hb hd (tw_cgr hn.symm k))
  · intro ix pc a b1 c1 n v ls st L f x y ht k
    have hd : decode r.2.2.2.1 pc = .ok (.iand, 1) := (hck ht rfl).1
    have hn : tw_pc r.2.2.2.2.2.2.2 (ix + 1) = pc + 1 := (hck ht rfl).2.1 rfl
    exact tw_cgr (tw_pc_at ht) (tg_iand hx hb hd (tw_cgr hn.symm k))
  · intro ix pc a b1 c1 n v ls st L f x y ht k
    have hd : decode r.2.2.2.1 pc = .ok (.ior, 1) := (hck ht rfl).1
    have hn : tw_pc r.2.2.2.2.2.2.2 (ix + 1) = pc + 1 := (hck ht rfl).2.1 rfl
    exact tw_cgr (tw_pc_at ht) (tg_ior hx hb hd (tw_cgr hn.symm k))
  · intro ix pc a b1 c1 n v ls st L f x y ht k
    have hd : decode r.2.2.2.1 pc = .ok (.ixor, 1) := (hck ht rfl).1
    have hn : tw_pc r.2.2.2.2.2.2.2 (ix + 1) = pc + 1 := (hck ht rfl).2.1 rfl
    exact tw_cgr (tw_pc_at ht) (tg_ixor hx hb hd (tw_cgr hn.symm k))
  · intro ix pc a b1 c1 n v ls st L f x y ht k
    have hd : decode r.2.2.2.1 pc = .ok (.ishl, 1) := (hck ht rfl).1
    have hn : tw_pc r.2.2.2.2.2.2.2 (ix + 1) = pc + 1 := (hck ht rfl).2.1 rfl
    exact tw_cgr (tw_pc_at ht) (tg_ishl hx hb hd (tw_cgr hn.symm k))
  · intro ix pc a b1 c1 n v ls st L f x y ht k
    have hd : decode r.2.2.2.1 pc = .ok (.ishr, 1) := (hck ht rfl).1
    have hn : tw_pc r.2.2.2.2.2.2.2 (ix + 1) = pc + 1 := (hck ht rfl).2.1 rfl
    exact tw_cgr (tw_pc_at ht) (tg_ishr hx hb hd (tw_cgr hn.symm k))
  · intro ix pc a b1 c1 n v ls st L f x y ht hy k
    have hd : decode r.2.2.2.1 pc = .ok (.idiv, 1) := (hck ht rfl).1
    have hn : tw_pc r.2.2.2.2.2.2.2 (ix + 1) = pc + 1 := (hck ht rfl).2.1 rfl
    exact tw_cgr (tw_pc_at ht) (tg_idiv hx hb hd hy (tw_cgr hn.symm k))
  · intro ix pc a b1 c1 n v ls st L f x y ht hy k
    have hd : decode r.2.2.2.1 pc = .ok (.irem, 1) := (hck ht rfl).1
    have hn : tw_pc r.2.2.2.2.2.2.2 (ix + 1) = pc + 1 := (hck ht rfl).2.1 rfl
    exact tw_cgr (tw_pc_at ht) (tg_irem hx hb hd hy (tw_cgr hn.symm k))
  · intro ix pc a b1 c1 n v ls st L f x ht kt kf
    have hd : decode r.2.2.2.1 pc = .ok (tw_if a ((tw_pc r.2.2.2.2.2.2.2 b1 : Int) - (pc : Int)), 3) := (hck ht rfl).1
    have hn : tw_pc r.2.2.2.2.2.2.2 (ix + 1) = pc + 3 := (hck ht rfl).2.1 rfl
    exact tw_cgr (tw_pc_at ht) (tg_if hx hb hd (tgt := tw_pc r.2.2.2.2.2.2.2 b1) (by omega) (fun g => kt g) (fun g => tw_cgr hn.symm (kf g)))
  · intro ix pc a b1 c1 n v ls st L f x y ht kt kf
    have hd : decode r.2.2.2.1 pc = .ok (tw_ic a ((tw_pc r.2.2.2.2.2.2.2 b1 : Int) - (pc : Int)), 3) := (hck ht rfl).1
    have hn : tw_pc r.2.2.2.2.2.2.2 (ix + 1) = pc + 3 := (hck ht rfl).2.1 rfl
    exact tw_cgr (tw_pc_at ht) (tg_icmp hx hb hd (tgt := tw_pc r.2.2.2.2.2.2.2 b1) (by omega) (fun g => kt g) (fun g => tw_cgr hn.symm (kf g)))
  · intro ix pc a b1 c1 n v ls st L f ht k
    have hd : decode r.2.2.2.1 pc = .ok (.goto ((tw_pc r.2.2.2.2.2.2.2 b1 : Int) - (pc : Int)), 3) := (hck ht rfl).1
    exact tw_cgr (tw_pc_at ht) (tg_goto hx hb hd (tgt := tw_pc r.2.2.2.2.2.2.2 b1) (by omega) k)
  · intro ix pc a b1 c1 n v ls st L f u1 ht hu k
    have hd : decode r.2.2.2.1 pc = .ok (.dup, 1) := (hck ht rfl).1
    have hn : tw_pc r.2.2.2.2.2.2.2 (ix + 1) = pc + 1 := (hck ht rfl).2.1 rfl
    exact tw_cgr (tw_pc_at ht) (tg_dup hx hb hd hu (tw_cgr hn.symm k))
  · intro ix pc a b1 c1 n v ls st L f u1 u2 ht hu1 hu2 k
    have hd : decode r.2.2.2.1 pc = .ok (.dup2, 1) := (hck ht rfl).1
    have hn : tw_pc r.2.2.2.2.2.2.2 (ix + 1) = pc + 1 := (hck ht rfl).2.1 rfl
    exact tw_cgr (tw_pc_at ht) (tg_dup2 hx hb hd hu1 hu2 (tw_cgr hn.symm k))
  · intro ix pc a b1 c1 n v ls st L f q nn rs ht hq hi k
    have hd : decode r.2.2.2.1 pc = .ok (.getfield c1, 3) := (hck ht rfl).1
    have hn : tw_pc r.2.2.2.2.2.2.2 (ix + 1) = pc + 3 := (hck ht rfl).2.1 rfl
    have hw0 : (decide (lk.1[n.toNat]? = some (r.1, c1, a, b1, 0)) || decide (lk.1[n.toNat]? = some (r.1, c1, a, b1, 1))) = true := (hck ht rfl).2.2
    have hw : ∃ j, lk.1[n.toNat]? = some (r.1, c1, a, b1, j) := by
      rcases Bool.or_eq_true_iff.mp hw0 with g | g
      · exact ⟨_, of_decide_eq_true g⟩
      · exact ⟨_, of_decide_eq_true g⟩
    obtain ⟨j, hj⟩ := hw
    obtain ⟨cr, hc, hlt, hlink, -, -⟩ := hOF _ (List.mem_of_getElem? hj)
    exact tw_cgr (tw_pc_at ht) (tg_getf hx hb hts hown hK hc (hOC _ _ hc) hlt (hts _ hlink) hd hq hi (tw_cgr hn.symm k))
  · intro ix pc a b1 c1 n v ls st L f x q nn rs ht hq hi hv k
    have hd : decode r.2.2.2.1 pc = .ok (.putfield c1, 3) := (hck ht rfl).1
    have hn : tw_pc r.2.2.2.2.2.2.2 (ix + 1) = pc + 3 := (hck ht rfl).2.1 rfl
    have hw : lk.1[n.toNat]? = some (r.1, c1, a, b1, 0) := of_decide_eq_true (hck ht rfl).2.2
    obtain ⟨cr, hc, hlt, hlink, hfin, -⟩ := hOF _ (List.mem_of_getElem? hw)
    exact tw_cgr (tw_pc_at ht) (tg_putf (hA _ _ ht (Or.inl rfl)) hx hb hts hown hK hc (hOC _ _ hc) hlt (hts _ hlink) hd (hfin rfl) hq hi hv (tw_cgr hn.symm k))
  · intro ix pc a b1 c1 n v ls st L f x q nn rs ht hq hi hv k
    have hd : decode r.2.2.2.1 pc = .ok (.putfield c1, 3) := (hck ht rfl).1
    have hn : tw_pc r.2.2.2.2.2.2.2 (ix + 1) = pc + 3 := (hck ht rfl).2.1 rfl
    have hw0 : (decide (lk.1[n.toNat]? = some (r.1, c1, a, b1, 1)) && decide (r.2.2.2.2.2.2.1.1 = 2) && decide (r.2.2.2.2.2.2.1.2.1 = a)) = true := (hck ht rfl).2.2
    rw [Bool.and_eq_true, Bool.and_eq_true] at hw0
    have hw := of_decide_eq_true hw0.1.1
    obtain ⟨cr, hc, hlt, hlink, -, hfin⟩ := hOF _ (List.mem_of_getElem? hw)
    obtain ⟨hf1, hf2⟩ := hfin rfl
    obtain ⟨hnm2, x2, hx2, hx3⟩ := hr.2.2.2 (of_decide_eq_true hw0.1.2)
    have hc2 : cl[a]? = some cr := hc
    rw [of_decide_eq_true hw0.2] at hx2
    have hxc : x2 = cr := Option.some.inj (hx2.symm.trans hc2)
    subst hxc
    exact tw_cgr (tw_pc_at ht) (tg_putFi (hA _ _ ht (Or.inr (Or.inl rfl))) hx hb hts hown hK hc (hOC _ _ hc) hlt (hts _ hlink) hd hf1 (hname.trans hnm2) (hf2.trans (hx3.trans (hr.2.1.trans hr.1))) hq hi hv (tw_cgr hn.symm k))
  · intro ix pc a b1 c1 n v ls st L f q2 q nn rs ht hq hi hrs hv k
    have hd : decode r.2.2.2.1 pc = .ok (.putfield c1, 3) := (hck ht rfl).1
    have hn : tw_pc r.2.2.2.2.2.2.2 (ix + 1) = pc + 3 := (hck ht rfl).2.1 rfl
    have hw0 : (decide (lk.1[n.toNat]? = some (r.1, c1, a, b1, 1)) && decide (r.2.2.2.2.2.2.1.1 = 2) && decide (r.2.2.2.2.2.2.1.2.1 = a)) = true := (hck ht rfl).2.2
    rw [Bool.and_eq_true, Bool.and_eq_true] at hw0
    have hw := of_decide_eq_true hw0.1.1
    obtain ⟨cr, hc, hlt, hlink, -, hfin⟩ := hOF _ (List.mem_of_getElem? hw)
    obtain ⟨hf1, hf2⟩ := hfin rfl
    obtain ⟨hnm2, x2, hx2, hx3⟩ := hr.2.2.2 (of_decide_eq_true hw0.1.2)
    have hc2 : cl[a]? = some cr := hc
    rw [of_decide_eq_true hw0.2] at hx2
    have hxc : x2 = cr := Option.some.inj (hx2.symm.trans hc2)
    subst hxc
    exact tw_cgr (tw_pc_at ht) (tg_putFr (hA _ _ ht (Or.inr (Or.inr (Or.inl rfl)))) hx hb hts hown hK hc (hOC _ _ hc) hlt (hts _ hlink) hd hf1 (hname.trans hnm2) (hf2.trans (hx3.trans (hr.2.1.trans hr.1))) hq hi hrs hv (tw_cgr hn.symm k))
  · intro ix pc a b1 c1 n v ls st L f x q nn rs ht hq hv k
    have hd : decode r.2.2.2.1 pc = .ok (.iaload, 1) := (hck ht rfl).1
    have hn : tw_pc r.2.2.2.2.2.2.2 (ix + 1) = pc + 1 := (hck ht rfl).2.1 rfl
    exact tw_cgr (tw_pc_at ht) (tg_iaload (t0 := 0) hx hb hK rfl hd hq hv (tw_cgr hn.symm k))
  · intro ix pc a b1 c1 n v ls st L f x q nn rs ht hq hv k
    have hd : decode r.2.2.2.1 pc = .ok (.baload, 1) := (hck ht rfl).1
    have hn : tw_pc r.2.2.2.2.2.2.2 (ix + 1) = pc + 1 := (hck ht rfl).2.1 rfl
    exact tw_cgr (tw_pc_at ht) (tg_baload (t0 := 1) hx hb hK rfl hd hq hv (tw_cgr hn.symm k))
  · intro ix pc a b1 c1 n v ls st L f x y q nn rs ht hq hv k
    have hd : decode r.2.2.2.1 pc = .ok (.iastore, 1) := (hck ht rfl).1
    have hn : tw_pc r.2.2.2.2.2.2.2 (ix + 1) = pc + 1 := (hck ht rfl).2.1 rfl
    exact tw_cgr (tw_pc_at ht) (tg_iastore (hA _ _ ht (Or.inr (Or.inr (Or.inr (Or.inl rfl))))) (t0 := 0) hx hb hK rfl hd hq hv (tw_cgr hn.symm k))
  · intro ix pc a b1 c1 n v ls st L f x y q nn rs ht hq hv hy k
    have hd : decode r.2.2.2.1 pc = .ok (.bastore, 1) := (hck ht rfl).1
    have hn : tw_pc r.2.2.2.2.2.2.2 (ix + 1) = pc + 1 := (hck ht rfl).2.1 rfl
    exact tw_cgr (tw_pc_at ht) (tg_bastore (hA _ _ ht (Or.inr (Or.inr (Or.inr (Or.inr rfl))))) (t0 := 1) hx hb hK rfl hd hq hv hy (tw_cgr hn.symm k))
  · intro ix pc a b1 c1 n v ls st L f As L2 q nn rs ht hq hna hct g1 g2 g3 g4 hS
    have hd : decode r.2.2.2.1 pc = .ok (.invokevirtual c1, 3) := (hck ht rfl).1
    have hn : tw_pc r.2.2.2.2.2.2.2 (ix + 1) = pc + 3 := (hck ht rfl).2.1 rfl
    have hw0 : (decide (lk.2.1[n.toNat]? = some (r.1, c1, a)) && tw_kd mt a 1 b1 && tw_fit mt a r) = true := (hck ht rfl).2.2
    rw [Bool.and_eq_true, Bool.and_eq_true] at hw0
    obtain ⟨r2, hr2, hlink⟩ := hOM _ (List.mem_of_getElem? (of_decide_eq_true hw0.1.1))
    have hr2' : mt[a]? = some r2 := hr2
    obtain ⟨hkd, hrc⟩ := tw_kd_of hr2' hw0.1.2
    obtain ⟨⟨q1, q2, q3, q4, q5⟩, q6, -, q10, q11, q12⟩ := hOR a r2 hr2'
    have hM := IH _ _ _ _ _ _ hS r2 hr2'
    have hlen : As.length = r2.2.2.2.2.2.2.1.2.2.1 := hna.trans (tw_na_of hr2')
    have hfit := tw_fit_of hr2' hw0.2
    have hroom : (tw_rm r2 L L2).frames + 1 ≤ R.frames ∧ 8 + (r2.2.2.2.2.1 + 11) + (tw_rm r2 L L2).locals ≤ R.locals := ⟨Nat.le_trans hfit.1 hRf, Nat.le_trans hfit.2 hRl⟩
    obtain ⟨w1, w2, x2, hx2, hx3⟩ := q11 hkd
    rw [hrc] at hx2
    refine tw_cgr (tw_pc_at ht) (tg_call (rest := st) (a := #[]) g1 g2 (fun H locs la j1 j2 hW hla => ?_) (fun f2 r3 hP => tw_cgr hn.symm hP))
    rcases hlink with hl | ⟨host, hl⟩
    · exact tr_V ⟨hx, hb, hml, hown, hts⟩ hM ⟨callB_of _ hts (tw_good hOG q4) rfl rfl rfl (hts _ q5) (hts _ hl) q6 hroom, hts _ w1, hts _ w2⟩ hK hN hq (hOC _ _ hx2).2.2.2.1 hx2 hx3 hW hla hlen hct hd ⟨by show (((L.length : Nat) : Int) - n0).toNat + (L2.length - L.length) ≤ _; omega, by show (((tw_sl L : Nat) : Int) - s0).toNat + (tw_sl L2 - tw_sl L) ≤ _; omega⟩
    · exact tr_VN ⟨hx, hb, hml, hown, hts⟩ hM ⟨va_cnB _ hts (tw_good hOG q4) rfl rfl rfl (hN _ hl) (hts _ q5) q6 hroom, hts _ w1, hts _ w2⟩ hK hN hq (hOC _ _ hx2).2.2.2.1 hx2 hx3 hW hla hlen hct hd ⟨by show (((L.length : Nat) : Int) - n0).toNat + (L2.length - L.length) ≤ _; omega, by show (((tw_sl L : Nat) : Int) - s0).toNat + (tw_sl L2 - tw_sl L) ≤ _; omega⟩
  · intro ix pc a b1 c1 n v ls st L f As L2 ht hna hct g1 g2 g3 g4 hS
    have hd : decode r.2.2.2.1 pc = .ok (.invokestatic c1, 3) := (hck ht rfl).1
    have hn : tw_pc r.2.2.2.2.2.2.2 (ix + 1) = pc + 3 := (hck ht rfl).2.1 rfl
    have hw0 : (decide (lk.2.1[n.toNat]? = some (r.1, c1, a)) && tw_kd mt a 0 0 && tw_fit mt a r) = true := (hck ht rfl).2.2
    rw [Bool.and_eq_true, Bool.and_eq_true] at hw0
    obtain ⟨r2, hr2, hlink⟩ := hOM _ (List.mem_of_getElem? (of_decide_eq_true hw0.1.1))
    have hr2' : mt[a]? = some r2 := hr2
    obtain ⟨hkd, hrc⟩ := tw_kd_of hr2' hw0.1.2
    obtain ⟨⟨q1, q2, q3, q4, q5⟩, q6, -, q10, q11, q12⟩ := hOR a r2 hr2'
    have hM := IH _ _ _ _ _ _ hS r2 hr2'
    have hlen : As.length = r2.2.2.2.2.2.2.1.2.2.1 := hna.trans (tw_na_of hr2')
    have hfit := tw_fit_of hr2' hw0.2
    have hroom : (tw_rm r2 L L2).frames + 1 ≤ R.frames ∧ 8 + (r2.2.2.2.2.1 + 11) + (tw_rm r2 L L2).locals ≤ R.locals := ⟨Nat.le_trans hfit.1 hRf, Nat.le_trans hfit.2 hRl⟩
    have w1 := q10 hkd
    refine tw_cgr (tw_pc_at ht) (tg_call (rest := st) (a := #[]) g1 g2 (fun H locs la j1 j2 hW hla => ?_) (fun f2 r3 hP => tw_cgr hn.symm hP))
    rcases hlink with hl | ⟨host, hl⟩
    · exact tr_S ⟨hx, hb, hml, hown, hts⟩ hM ⟨callB_of _ hts (tw_good hOG q4) rfl rfl rfl (hts _ q5) (hts _ hl) q6 hroom, hts _ w1⟩ hK hN hW hla hlen hct hd ⟨by show (((L.length : Nat) : Int) - n0).toNat + (L2.length - L.length) ≤ _; omega, by show (((tw_sl L : Nat) : Int) - s0).toNat + (tw_sl L2 - tw_sl L) ≤ _; omega⟩
    · exact tr_SN ⟨hx, hb, hml, hown, hts⟩ hM ⟨va_cnB _ hts (tw_good hOG q4) rfl rfl rfl (hN _ hl) (hts _ q5) q6 hroom, hts _ w1, trivial⟩ hK hN hW hla hlen hct hd ⟨by show (((L.length : Nat) : Int) - n0).toNat + (L2.length - L.length) ≤ _; omega, by show (((tw_sl L : Nat) : Int) - s0).toNat + (tw_sl L2 - tw_sl L) ≤ _; omega⟩
  · intro ix pc a b1 c1 n v ls st L f As L2 q ht hna hct g1 g2 g3 g4 hS
    have hd : decode r.2.2.2.1 pc = .ok (.invokespecial c1, 3) := (hck ht rfl).1
    have hn : tw_pc r.2.2.2.2.2.2.2 (ix + 1) = pc + 3 := (hck ht rfl).2.1 rfl
    have hw0 : (decide (lk.2.1[n.toNat]? = some (r.1, c1, a)) && tw_kd mt a 2 b1 && tw_fit mt a r) = true := (hck ht rfl).2.2
    rw [Bool.and_eq_true, Bool.and_eq_true] at hw0
    obtain ⟨r2, hr2, hlink⟩ := hOM _ (List.mem_of_getElem? (of_decide_eq_true hw0.1.1))
    have hr2' : mt[a]? = some r2 := hr2
    obtain ⟨hkd, hrc⟩ := tw_kd_of hr2' hw0.1.2
    obtain ⟨⟨q1, q2, q3, q4, q5⟩, q6, -, q10, q11, q12⟩ := hOR a r2 hr2'
    have hM := IH _ _ _ _ _ _ hS r2 hr2'
    have hlen : As.length = r2.2.2.2.2.2.2.1.2.2.1 := hna.trans (tw_na_of hr2')
    have hfit := tw_fit_of hr2' hw0.2
    have hroom : (tw_rm r2 L L2).frames + 1 ≤ R.frames ∧ 8 + (r2.2.2.2.2.1 + 11) + (tw_rm r2 L L2).locals ≤ R.locals := ⟨Nat.le_trans hfit.1 hRf, Nat.le_trans hfit.2 hRl⟩
    obtain ⟨w1, w2, w3, -⟩ := q12 hkd
    rw [w3] at hM q4
    refine tw_cgr (tw_pc_at ht) (tg_call (rest := st) (a := #[]) g1 g2 (fun H locs la j1 j2 hW hla => ?_) (fun f2 r3 hP => tw_cgr hn.symm hP))
    rcases hlink with hl | ⟨host, hl⟩
    · exact tr_I ⟨hx, hb, hml, hown, hts⟩ hM ⟨callB_of _ hts (tw_good hOG q4) rfl rfl rfl (hts _ q5) (hts _ hl) q6 hroom, w1, hts _ w2⟩ hK hN hW hla hlen hct hd ⟨by show (((L.length : Nat) : Int) - n0).toNat + (L2.length - L.length) ≤ _; omega, by show (((tw_sl L : Nat) : Int) - s0).toNat + (tw_sl L2 - tw_sl L) ≤ _; omega⟩
    · exact tr_IN ⟨hx, hb, hml, hown, hts⟩ hM ⟨va_cnB _ hts (tw_good hOG q4) rfl rfl rfl (hN _ hl) (hts _ q5) q6 hroom, w1, hts _ w2⟩ hK hN hW hla hlen hct hd ⟨by show (((L.length : Nat) : Int) - n0).toNat + (L2.length - L.length) ≤ _; omega, by show (((tw_sl L : Nat) : Int) - s0).toNat + (tw_sl L2 - tw_sl L) ≤ _; omega⟩
  · intro ix pc a b1 c1 n v ls f x ht k
    have hd : decode r.2.2.2.1 pc = .ok (.ireturn, 1) := (hck ht rfl).1
    have hw : r.2.2.2.2.2.1 = some .int := of_decide_eq_true (hck ht rfl).2.2
    exact tw_cgr (tw_pc_at ht) (tw_G_mono hQ (tg_iret hx hb (hret.trans hw) hlocks hd k))
  · intro ix pc a b1 c1 n v ls f x ht h01 k
    have hd : decode r.2.2.2.1 pc = .ok (.ireturn, 1) := (hck ht rfl).1
    have hw : r.2.2.2.2.2.1 = some .boolean := of_decide_eq_true (hck ht rfl).2.2
    exact tw_cgr (tw_pc_at ht) (tw_G_mono hQ (tg_zret hx hb (hret.trans hw) hlocks hd h01 k))
  · intro ix pc a b1 c1 n v ls f ht k
    have hd : decode r.2.2.2.1 pc = .ok (.return_, 1) := (hck ht rfl).1
    have hw : r.2.2.2.2.2.1 = none := of_decide_eq_true (hck ht rfl).2.2
    exact tw_cgr (tw_pc_at ht) (tw_G_mono hQ (tg_vret hx hb (hret.trans hw) hlocks hd k))
  · intro ix pc a b1 c1 n v ls f q ht k
    have hd : decode r.2.2.2.1 pc = .ok (.areturn, 1) := (hck ht rfl).1
    have hw : tw_isR r.2.2.2.2.2.1 = true := (hck ht rfl).2.2
    have hw2 : ∃ rt, r.2.2.2.2.2.1 = some rt ∧ ((∃ n, rt = .object n) ∨ ∃ t, rt = .array t) := by
      unfold tw_isR at hw
      split at hw
      · exact ⟨_, by assumption, Or.inl ⟨_, rfl⟩⟩
      · exact ⟨_, by assumption, Or.inr ⟨_, rfl⟩⟩
      · cases hw
    obtain ⟨rt, e1, e2⟩ := hw2
    exact tw_cgr (tw_pc_at ht) (tw_G_mono hQ (tg_aret hx hb (hret.trans e1) e2 hlocks hd k))
  · intro ix pc a b1 c1 n v ls st L f ht hfl g1 g2 k
    subst hfl
    have hd : decode r.2.2.2.1 pc = .ok (.new c1, 3) := (hck ht rfl).1
    have hn : tw_pc r.2.2.2.2.2.2.2 (ix + 1) = pc + 3 := (hck ht rfl).2.1 rfl
    have hw : lk.2.2.1[n.toNat]? = some (r.1, c1, a, b1) := of_decide_eq_true (hck ht rfl).2.2
    obtain ⟨cr, hc, hb2, w1, w2, w3⟩ := hON _ (List.mem_of_getElem? hw)
    have hb3 : b1 = cr.2.2 := hb2
    subst hb3
    exact tw_cgr (tw_pc_at ht) (tg_new hx hb hts hown hK hc (hOC _ _ hc) (hts _ w1) (hts _ w2) (hts _ w3) hd hb0 (by omega) (by omega) (tw_cgr hn.symm k))
  · intro ix pc a b1 c1 n v ls st L f x nn ht hfl hxn hnn g1 g2 k
    subst hfl
    have hd : decode r.2.2.2.1 pc = .ok (.newarray (tw_at a), 2) := (hck ht rfl).1
    have hn : tw_pc r.2.2.2.2.2.2.2 (ix + 1) = pc + 2 := (hck ht rfl).2.1 rfl
    have hw : a = 100 ∨ a = 101 ∨ a = 102 := of_decide_eq_true (hck ht rfl).2.2
    have htys : ∃ t0 : Nat, [(cA 100, FieldType.int), (cA 101, .boolean), (cA 102, .long)][t0]? = some (cA a, tw_ty a) := by
      rcases hw with rfl | rfl | rfl
      · exact ⟨0, rfl⟩
      · exact ⟨1, rfl⟩
      · exact ⟨2, rfl⟩
    obtain ⟨t0, ht0⟩ := htys
    exact tw_cgr (tw_pc_at ht) (tg_newa hx hb hw (hts _ (hOA a hw)) hK ht0 hd hxn hnn (by omega) (by omega) (tw_cgr hn.symm k))
  · intro ix pc a b1 c1 n v ls L f q ht k
    have hd : decode r.2.2.2.1 pc = .ok (.invokespecial c1, 3) := (hck ht rfl).1
    have hn : tw_pc r.2.2.2.2.2.2.2 (ix + 1) = pc + 3 := (hck ht rfl).2.1 rfl
    have hw0 : (decide (lk.2.2.2.1[n.toNat]? = some (r.1, c1)) && decide (1 ≤ r.2.2.2.2.2.2.1.2.2.2.1 ∧ 12 ≤ r.2.2.2.2.2.2.1.2.2.2.2)) = true := (hck ht rfl).2.2
    rw [Bool.and_eq_true] at hw0
    have hw := of_decide_eq_true hw0.1
    have hw2 := of_decide_eq_true hw0.2
    obtain ⟨w1, w2, w3⟩ := hOO _ (List.mem_of_getElem? hw)
    exact tw_cgr (tw_pc_at ht) (tg_objInit hx hb hml hown (hts _ w1) (hts _ w2) (hts _ w3) (by omega) (by show 0 + 12 ≤ _; omega) hd (tw_cgr hn.symm k))
  · intro ix pc a b1 c1 n v ls st L f x y ht hct g1 g2 k
    have hd : decode r.2.2.2.1 pc = .ok (.invokestatic c1, 3) := (hck ht rfl).1
    have hn : tw_pc r.2.2.2.2.2.2.2 (ix + 1) = pc + 3 := (hck ht rfl).2.1 rfl
    have hw0 : (decide (lk.2.2.2.2[n.toNat]? = some (r.1, c1)) && decide (1 ≤ r.2.2.2.2.2.2.1.2.2.2.1 ∧ 14 ≤ r.2.2.2.2.2.2.1.2.2.2.2)) = true := (hck ht rfl).2.2
    rw [Bool.and_eq_true] at hw0
    have hw := of_decide_eq_true hw0.1
    have hw2 := of_decide_eq_true hw0.2
    obtain ⟨w1, w2, w3, w4⟩ := hOX _ (List.mem_of_getElem? hw)
    exact tw_cgr (tw_pc_at ht) (tg_max hx hb hml hown (hts _ w1) (hts _ w2) (hts _ w3) (hts _ w4) (by omega) (by omega) (by omega) (by omega) hd (tw_cgr hn.symm k))
  · intro ix pc a b1 c1 n v ls st L f x lo ts df ht hsw k
    have hok : tw_sok sw a = true := (hck ht rfl).2.2
    have hlo : 0 < ts.length ∧ ts.length < 1000 ∧ lo = 0 := by
      unfold tw_sok at hok
      rw [hsw] at hok
      have h2 := Bool.and_eq_true_iff.mp hok
      have h3 := Bool.and_eq_true_iff.mp h2.1
      exact ⟨of_decide_eq_true h3.1, of_decide_eq_true h3.2, of_decide_eq_true h2.2⟩
    obtain ⟨hl0, hl1, rfl⟩ := hlo
    have hd0 := (hck ht rfl).1
    have hd : decode r.2.2.2.1 pc = .ok (.tableswitch ((tw_pc r.2.2.2.2.2.2.2 df : Int) - (pc : Int)) 0 (0 + (ts.length : Int) - 1) (ts.map (fun j => (tw_pc r.2.2.2.2.2.2.2 j : Int) - (pc : Int))).toArray, tw_pc r.2.2.2.2.2.2.2 (ix + 1) - pc) := by
      rw [hd0]
      show Except.ok ((match sw[a]? with | some s => _ | none => _), _) = _
      rw [hsw]
    refine tw_cgr (tw_pc_at ht) (tg_switch hx hb (t := r.2.2.2.2.2.2.2) hd hl0 hl1 k)
  · intro ix pc a b1 c1 n v ls st L f ht hl k
    have hd : decode r.2.2.2.1 pc = .ok (.aload_n (Fin.ofNat 4 a), 1) := (hck ht rfl).1
    have hn : tw_pc r.2.2.2.2.2.2.2 (ix + 1) = pc + 1 := (hck ht rfl).2.1 rfl
    have hw : a < 4 := of_decide_eq_true (hck ht rfl).2.2
    exact tw_cgr (tw_pc_at ht) (tg_aload_nZ hx hb hd (Nat.mod_eq_of_lt hw) hl (tw_cgr hn.symm k))
  · intro ix pc a b1 c1 n v ls st L f x N g ht hg hv k
    have hd : decode r.2.2.2.1 pc = .ok (.iaload, 1) := (hck ht rfl).1
    have hn : tw_pc r.2.2.2.2.2.2.2 (ix + 1) = pc + 1 := (hck ht rfl).2.1 rfl
    obtain ⟨y1, y2, y3⟩ := hxs N g hg
    exact tw_cgr (tw_pc_at ht) (fun H locs la g1 g2 hW hS hh => va_sld hx hb y1 y2 y3 hS hv hd (tw_cgr hn.symm k H locs la g1 g2 hW hS hh))
  · intro ix pc a b1 c1 n v ls st L f N g ht hg k
    have hd : decode r.2.2.2.1 pc = .ok (.arraylength, 1) := (hck ht rfl).1
    have hn : tw_pc r.2.2.2.2.2.2.2 (ix + 1) = pc + 1 := (hck ht rfl).2.1 rfl
    obtain ⟨y1, y2, y3⟩ := hxs N g hg
    exact tw_cgr (tw_pc_at ht) (fun H locs la g1 g2 hW hS hh => va_slen hx hb y1 y2 y3 hS hd (tw_cgr hn.symm k H locs la g1 g2 hW hS hh))
  · intro ix pc a b1 c1 n v ls st L f x q nn rs ht hq hv k
    have hd : decode r.2.2.2.1 pc = .ok (.laload, 1) := (hck ht rfl).1
    have hn : tw_pc r.2.2.2.2.2.2.2 (ix + 1) = pc + 1 := (hck ht rfl).2.1 rfl
    exact tw_cgr (tw_pc_at ht) (tg_laload (t0 := 2) hx hb hK rfl hd hq hv (tw_cgr hn.symm k))
  · intro ix pc a b1 c1 n v ls st L f x ht k
    have hd : decode r.2.2.2.1 pc = .ok (.i2l, 1) := (hck ht rfl).1
    have hn : tw_pc r.2.2.2.2.2.2.2 (ix + 1) = pc + 1 := (hck ht rfl).2.1 rfl
    exact tw_cgr (tw_pc_at ht) (fun H locs la g1 g2 hW hS hh => lv_i2l hx hb hd rfl (tw_cgr hn.symm k H locs la g1 g2 hW hS hh))
  · intro ix pc a b1 c1 n v ls st L f x y ht k
    have hd : decode r.2.2.2.1 pc = .ok (.lcmp, 1) := (hck ht rfl).1
    have hn : tw_pc r.2.2.2.2.2.2.2 (ix + 1) = pc + 1 := (hck ht rfl).2.1 rfl
    exact tw_cgr (tw_pc_at ht) (fun H locs la g1 g2 hW hS hh => W.lcmp hx hb hd (tw_cgr hn.symm k H locs la g1 g2 hW hS hh))
