/-! Where a call throws: the object that is made, the way out, the handler. -/
abbrev xN : String := "java/util/NoSuchElementException"
abbrev xUp : List String := ["java/lang/RuntimeException", "java/lang/Exception"]
abbrev xAt : List Cond := Bundle.ownAtoms0 "TwinArray" 131 xN xUp
/-- U stands above s0: what lay there before is as it was -/
def tw_us (b : Nat) (s0 U : State) : Prop := s0.WarmedH U.vm ∧ ∀ q : Nat, q < b → U.heap[q]? = s0.heap[q]?
/-- the words that ride from a state to one above it -/
def xR : Cond → Bool
  | .laysStatic _ _ _ => true
  | .isRef (.static _ _ _) => true
  | w => w.tabsOnly
theorem xR_stat {s U : State} {C n d : String} {a a' : Array Value} {v : Value} (hal : s.vm.Alike U.vm) (hk : ∀ (q : Nat) (cell : Cell), s.heap[q]? = some cell → U.heap[q]? = some cell) (h : (Term.static C n d).eval a s none [] s = some v) : (Term.static C n d).eval a' U none [] U = some v := by
  have h1 := Term.static_setVm (args := a) hal h
  have hf : (s.setVm U.vm).fieldNamed? C n d true = U.fieldNamed? C n d true := rfl
  simp only [Term.eval, hf] at h1
  simp only [Term.eval]
  cases hq : U.fieldNamed? C n d true with
  | none => rw [hq] at h1; cases h1
  | some q =>
    obtain ⟨c, k, slot⟩ := q
    rw [hq] at h1
    cases hs : k.statics with
    | none => simp [hs] at h1
    | some ad =>
      cases hc : s.heap[ad]? with
      | none =>
        simp [hs, hc] at h1
      | some cell =>
        simp [hs, hc] at h1
        simp [hs, hk ad cell hc, h1]
theorem xR_ride {s U : State} {a a' : Array Value} (hW : s.WarmedH U.vm) (hk : ∀ (q : Nat) (cell : Cell), s.heap[q]? = some cell → U.heap[q]? = some cell) (w : Cond) (hw : xR w = true) (h : w.before a s = true) : w.before a' U = true := by
  unfold xR at hw
  split at hw
  · obtain ⟨c, k, i, f, ad, cell, h1, h2, h3, h4, h5, h6, h7, h8, h9⟩ := Cond.laysStatic_spec (Cond.laysStatic_setVm (args := a) hW.alike h)
    exact Cond.laysStatic_of (s := U) h1 h2 h3 h4 (hk ad cell h5) h6 h7 h8 h9
  · next C n d =>
    obtain ⟨v, hv, hr⟩ := Cond.isRef_spec (show (Cond.isRef (.static C n d)).holds a s none s [] = true from h)
    have hv2 := xR_stat (a' := a') hW.alike hk hv
    have hv1 : (Cond.isRef (.static C n d)).value a s none s [] = (Cond.isRef (.static C n d)).value a' U none U [] := by
      simp only [Cond.value, hv, hv2]
    have h9 : (Cond.isRef (.static C n d)).value a s none s [] = some true := by
      simpa [Cond.before, Cond.holds] using h
    rw [hv1] at h9
    simp [Cond.before, Cond.holds, h9]
  · have h1 := Cond.tabsOnly_warm (args' := a') (T := U) hW w hw h
    rwa [State.setVm_self] at h1
theorem xRide : xAt.all xR = true := by decide +kernel
theorem tw_us.words {s0 U : State} {a0 a : Array Value} (h : tw_us s0.heap.size s0 U) (hw : ∀ w ∈ xAt, w.before a0 s0 = true) : ∀ w ∈ xAt, w.before a U = true :=
  fun w hx => xR_ride h.1 (fun y cy hy => (h.2 y (Array.getElem?_eq_some_iff.mp hy).1).trans hy) w (List.all_eq_true.mp xRide w hx) (hw w hx)
/-- the end of a method that threw, one cell behind all the others -/
def tw_Qt (s : State) (o : Outcome) (t : State) : Prop := ∃ (x : Addr) (ce : Cell), o = .threw x ∧ s.WarmedH t.vm ∧ s.sameButNew ({ t with vm := s.vm } : State) [] 1 6 ∧ t.heap[x]? = some ce ∧ ce.vm = .none ∧ s.vm.findClass xN = some ce.cls ∧ s.heap.size ≤ x
section THROW
variable {p : Program} {l : Launch} {e : Env} {R : Room} {s : State} {m : MethodId} {args : Array Value} {below : List Frame} {meth : Method} {c : Code} {Q : State → Prop} {cl : List vw_C} {ft : Nat → Nat → Nat} {D : va_G} {cA : Nat → ClassId} {b z nL : Nat} {cc : ByteArray} {pc : Nat} {ls : List (Option tw_A)} {L : tw_L} {f : tw_S}
theorem tg_throw (hx : p.tables.exec = Jvm.exec) (hb : c.code = cc) (hml : c.maxLocals = nL) (htr : e.platform.stackTraces = false) (hown : s.vm.findClass "TwinArray" = some m.cls) (hlink : (Cond.classLink "TwinArray" 129 xN).before args s = true) (hini : (Cond.initialized xN).before args s = true) (hat : ∀ w ∈ xAt, w.before args s = true)
    (d0 : decode cc pc = .ok (.new 129, 3)) (d3 : decode cc (pc + 3) = .ok (.dup, 1)) (d4 : decode cc (pc + 4) = .ok (.invokespecial 131, 3)) (d7 : decode cc (pc + 7) = .ok (.athrow, 1)) (hout : c.exceptionTable.toList = []) (hlocks : meth.locks = false)
    (hfr : 6 ≤ R.frames) (hlo : 82 ≤ R.locals) (hce : 1 ≤ R.cells) (hsl : 6 ≤ R.slots) (hQ : ∀ t, t.status = .running → (∃ o, Ended t below o ∧ tw_Qt s o t) → Q t) :
    tw_G p l e R s m args below meth c Q cl ft D cA b z nL (L.length : Int) ((tw_sl L : Nat) : Int) (fun _ => False) false pc ls [] L f := by
  intro H locs la g1 g2 hW hS hh
  have hl : locs = [] := by
    cases locs with
    | nil => rfl
    | cons q qs => exact (hS.2.2 q List.mem_cons_self).elim
  subst hl
  rw [show (((L.length : Nat) : Int) - (L.length : Int)).toNat = 0 by omega, show (((tw_sl L : Nat) : Int) - ((tw_sl L : Nat) : Int)).toNat = 0 by omega]
  have hins : (Cond.instantiable xN 6).before args s = true := hat _ (by decide +kernel)
  obtain ⟨cX, kX', hfX, -⟩ := Cond.instantiable_spec (show (Cond.instantiable xN 6).holds args s none s [] = true from hins)
  refine W.newcK hx hb hown hlink hins hini (g := F0 m pc la []) rfl d0 (by omega) (by omega) hfX rfl fun H1 kX hkX e1 z1 o1 => ?_
  show W p l e R s m args below meth c H1 [] (0 + 1) (0 + 6) Q (F0 m (pc + 3) la [.ref H.size])
  refine lv_dup hx hb d3 rfl ?_
  intro T hT X
  obtain ⟨U, st, hrun, hend, hWm, hsame, ce, hce2, hO⟩ := X.ctorThrow0 hx htr (own := "TwinArray") (cls := xN) (names := xUp) (ic := 131) hown (by decide +kernel) (by decide +kernel) hat (fun x hx => by cases hx) (a := H.size) (cX := cX) (kX := kX) hfX hkX (by rw [hT]; exact e1) hS.1 (g := F0 m (pc + 4) la [.ref H.size, .ref H.size]) rfl (by show la.size = c.maxLocals; rw [hml]; exact hh.1) rfl rfl (rest := []) rfl (by rw [hb]; exact d4) (by rw [hb]; exact d7) (by rw [hout]; intro x hx; cases hx) (by show 2 + 3 < R.frames; omega) (by show 0 + 1 + (13 * (2 + 1) + 41) ≤ R.locals; omega) hlocks
  exact ⟨U, st, hQ U hrun ⟨_, hend, H.size, ce, rfl, hWm, hsame, hce2, hO.vm, hO.cls, hS.1⟩⟩
end THROW
def rmT : Room := { frames := 6, cells := 1, slots := 6, locals := 120 }
theorem tw_throws {l : Launch} {cl : List vw_C} {ft : Nat → Nat → Nat} {ty : Nat → Nat → FieldType} {mt : List tw_MR} {sw : tw_SW} {lk : tw_LK} {nm : Nat → String} {Ts : List Cond} {Nm : List tw_N} {D : va_G} {cA : Nat → ClassId} {z : Nat} {s0 : State} {a0 : Array Value} (htr : l.stackTraces = false) (hOK : tw_OK cl ft ty mt sw lk nm Ts Nm) (hw0 : ∀ w ∈ xAt, w.before a0 s0 = true) (hlink : Cond.classLink "TwinArray" 129 xN ∈ Ts) (hini : Cond.initialized xN ∈ Ts)
    {k ixn : Nat} {r : tw_MR} (hr : mt[k]? = some r) (hcls : (tw_my r).cls = "TwinArray") (hpl : tw_pl mt k = true) (hf : r.2.2.2.2.2.2.1.2.2.2.1 ≤ 6) (hlo : r.2.2.2.2.2.2.1.2.2.2.2 ≤ 120) {As : List tw_A} {L : tw_L} {f : tw_S} (hall : As.all (fun a => tw_ct a == 1) = true) (hlen : As.length ≤ r.2.2.2.2.1)
    (d0 : decode r.2.2.2.1 (tw_pc r.2.2.2.2.2.2.2 ixn) = .ok (.new 129, 3)) (d3 : decode r.2.2.2.1 (tw_pc r.2.2.2.2.2.2.2 ixn + 3) = .ok (.dup, 1)) (d4 : decode r.2.2.2.1 (tw_pc r.2.2.2.2.2.2.2 ixn + 4) = .ok (.invokespecial 131, 3)) (d7 : decode r.2.2.2.1 (tw_pc r.2.2.2.2.2.2.2 ixn + 7) = .ok (.athrow, 1))
    (hwalk : ∀ X : tw_X, tw_Cl mt sw ft false none (tw_Sl mt sw ft false) L (fun _ _ => False) r.2.2.2.2.2.2.2 X → (∀ ls, X ixn ls [] L f) → X 0 (tw_in r.2.2.2.2.1 As) [] L f) :
    MetFree l (tw_my r) (headSpec (Cond.code (tw_my r) r.2.2.2.1 r.2.2.2.2.1 r.2.2.2.2.2.1 :: Ts) rmT) (fun v U => tw_Pc cl ft D cA [(cA 100, .int), (cA 101, .boolean), (cA 102, .long)] Nm s0.heap.size z false As L f v U ∧ tw_us s0.heap.size s0 U) (fun _ _ _ _ _ => True) (fun _ st o t => tw_Qt st o t) := by
  have hm := hOK.2.2.2.2.2.2.2.2 k r hr
  refine MetFree.of_bodyS (code := r.2.2.2.1) (maxLocals := r.2.2.2.2.1) (ret := r.2.2.2.2.2.1) hm.1.2.2.1 ?_ ?_
  · intro args s m h hn
    obtain ⟨meth, c, h1, h2, h3, h4, h5, h6, -, -⟩ := Cond.code_spec hn (atoms_spec (ws := Cond.code (tw_my r) r.2.2.2.1 r.2.2.2.2.1 r.2.2.2.2.2.1 :: Ts) h _ List.mem_cons_self)
    exact ⟨meth, c, h1, h2, h3, h4, h5, h6⟩
  · intro p e s m args below meth c s₁ B hml hP _
    obtain ⟨⟨rfl, hW, hK, hN⟩, hus⟩ := hP
    have hts0 := atoms_spec (ws := Cond.code (tw_my r) r.2.2.2.1 r.2.2.2.2.1 r.2.2.2.2.2.1 :: Ts) B.pre
    have hts : ∀ w ∈ Ts, w.before ((As.map (tw_v s0.heap.size z)).toArray) s = true := fun w hw => hts0 w (List.mem_cons_of_mem _ hw)
    have hown0 : s.vm.findClass (tw_my r).cls = some m.cls := findClass_of_methodNamed B.named
    have hown : s.vm.findClass "TwinArray" = some m.cls := by rw [← hcls]; exact hown0
    rw [hm.1.2.1, hm.1.1] at hown0
    have hnh := B.noHandlers (hts0 _ List.mem_cons_self)
    have htr2 : e.platform.stackTraces = false := by rw [B.admits.platform]; exact htr
    have hcl := tw_closed (b := s0.heap.size) (n0 := (L.length : Int)) (s0 := ((tw_sl L : Nat) : Int)) (xs := none) (P := fun _ _ => False) (Lf := L) (R := rmT) (below := below) (l := l) (e := e) (z := z) (fl := false) (A := fun _ => False) (Q := fun t => t.status = .running ∧ ∃ o, Ended t below o ∧ tw_Qt s o t) hOK hm.mw B.exec B.bytes hml B.returns B.notSynchronized (name_of_methodNamed B.named B.method).1 hts hown0 hK hN (by have h9 := hW.2.1; omega) (fun N g h => by cases h) (fun ix x hx h9 => by
        unfold tw_pl at hpl
        rw [hr] at hpl
        have h8 := List.all_eq_true.mp hpl x (List.mem_of_getElem? hx)
        rw [decide_eq_true h9] at h8
        cases h8) hf hlo (by show _ ≤ 1; omega) (by show _ ≤ 6; omega) (fun t h => by obtain ⟨o, -, -, ⟨⟨_, _, _, h7, _⟩, _⟩, _⟩ := h; exact h7.elim) (tw_metl hOK)
    have h2 := hwalk _ hcl (fun ls => tg_throw B.exec B.bytes hml htr2 hown (hts _ hlink) (hts _ hini) (hus.words hw0) d0 d3 d4 d7 (by simpa using hnh) B.notSynchronized (by decide) (by decide) (by decide) (by decide) (fun t h1 h2 => ⟨h1, h2⟩)) s.heap [] _ (Int.le_refl _) (Int.le_refl _) hW va_S.rf (tw_entry hall hlen)
    rw [hm.2.2.1.1, show (((L.length : Nat) : Int) - (L.length : Int)).toNat = 0 by omega, show (((tw_sl L : Nat) : Int) - ((tw_sl L : Nat) : Int)).toNat = 0 by omega] at h2
    have hh0 : s₁.heap = s.heap := by rw [B.state]; rfl
    obtain ⟨t, a1, a2, o, a3, a4⟩ := h2 s₁ hh0 (Stand.of_body B)
    rw [lg_entry_eq]
    exact ⟨t, o, a1, a2, a3, a4⟩
