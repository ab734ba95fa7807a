/-! One instruction at a time: from the next frame back to this one, over the whole system's memory. -/
def tw_sl (L : tw_L) : Nat := (L.map (fun k => k.2.1)).sum
def tw_G (p : Program) (l : Launch) (e : Env) (R : Room) (s : State) (m : MethodId) (args : Array Value) (below : List Frame) (meth : Method) (c : Code) (Q : State → Prop) (cl : List vw_C) (ft : Nat → Nat → Nat) (D : va_G) (cA : Nat → ClassId) (b z nL : Nat) (n0 s0 : Int) (A : Nat → Prop) (fl : Bool) (pc : Nat) (ls : List (Option tw_A)) (st : List tw_A) (L : tw_L) (f : tw_S) : Prop :=
  ∀ (H : Heap) (locs : List Loc) (la : Array Slot), n0 ≤ (L.length : Int) → s0 ≤ ((tw_sl L : Nat) : Int) → tw_W cl ft D cA b fl L f H → va_S A s.heap H locs → tw_lh b z nL ls la → W p l e R s m args below meth c H locs ((((L.length : Nat) : Int) - n0).toNat) ((((tw_sl L : Nat) : Int) - s0).toNat) Q (F0 m pc la (st.map (tw_v b z)))
section ROWS
variable {p : Program} {l : Launch} {e : Env} {R : Room} {s : State} {m : MethodId} {args : Array Value} {below : List Frame} {meth : Method} {c : Code} {Q : State → Prop} {cl : List vw_C} {ft : Nat → Nat → Nat} {D : va_G} {cA : Nat → ClassId} {b z nL : Nat} {n0 s0 : Int} {A : Nat → Prop} {fl : Bool} {cc : ByteArray} {pc : Nat} {ls : List (Option tw_A)} {st : List tw_A} {L : tw_L} {f : tw_S}
theorem tg_iload_n (hx : p.tables.exec = Jvm.exec) (hb : c.code = cc) {a : Nat} {k : Fin 4} {x : Int32} (hd : decode cc pc = .ok (.iload_n k, 1)) (hk : (k : Nat) = a) (hl : ls[a]? = some (some (tw_I x)))
    (kk : tw_G p l e R s m args below meth c Q cl ft D cA b z nL n0 s0 A fl (pc + 1) ls (tw_I x :: st) L f) : tw_G p l e R s m args below meth c Q cl ft D cA b z nL n0 s0 A fl pc ls st L f :=
  fun H locs la g1 g2 hW hS hh => lv_iload_n hx hb hd hk (hh.2.2.2 _ _ hl).1 (kk H locs la g1 g2 hW hS hh)
theorem tg_iload (hx : p.tables.exec = Jvm.exec) (hb : c.code = cc) {a : Nat} {x : Int32} (hd : decode cc pc = .ok (.iload a, 2)) (hl : ls[a]? = some (some (tw_I x)))
    (kk : tw_G p l e R s m args below meth c Q cl ft D cA b z nL n0 s0 A fl (pc + 2) ls (tw_I x :: st) L f) : tw_G p l e R s m args below meth c Q cl ft D cA b z nL n0 s0 A fl pc ls st L f :=
  fun H locs la g1 g2 hW hS hh => lv_iload hx hb hd (hh.2.2.2 _ _ hl).1 (kk H locs la g1 g2 hW hS hh)
theorem tg_aload_n (hx : p.tables.exec = Jvm.exec) (hb : c.code = cc) {a q : Nat} {k : Fin 4} (hd : decode cc pc = .ok (.aload_n k, 1)) (hk : (k : Nat) = a) (hl : ls[a]? = some (some (tw_R q)))
    (kk : tw_G p l e R s m args below meth c Q cl ft D cA b z nL n0 s0 A fl (pc + 1) ls (tw_R q :: st) L f) : tw_G p l e R s m args below meth c Q cl ft D cA b z nL n0 s0 A fl pc ls st L f :=
  fun H locs la g1 g2 hW hS hh => lv_aload_n hx hb hd hk (hh.2.2.2 _ _ hl).1 (kk H locs la g1 g2 hW hS hh)
theorem tg_aload (hx : p.tables.exec = Jvm.exec) (hb : c.code = cc) {a q : Nat} (hd : decode cc pc = .ok (.aload a, 2)) (hl : ls[a]? = some (some (tw_R q)))
    (kk : tw_G p l e R s m args below meth c Q cl ft D cA b z nL n0 s0 A fl (pc + 2) ls (tw_R q :: st) L f) : tw_G p l e R s m args below meth c Q cl ft D cA b z nL n0 s0 A fl pc ls st L f :=
  fun H locs la g1 g2 hW hS hh => lv_aload hx hb hd (hh.2.2.2 _ _ hl).1 (kk H locs la g1 g2 hW hS hh)
theorem tg_aload_nZ (hx : p.tables.exec = Jvm.exec) (hb : c.code = cc) {a : Nat} {k : Fin 4} (hd : decode cc pc = .ok (.aload_n k, 1)) (hk : (k : Nat) = a) (hl : ls[a]? = some (some tw_Z))
    (kk : tw_G p l e R s m args below meth c Q cl ft D cA b z nL n0 s0 A fl (pc + 1) ls (tw_Z :: st) L f) : tw_G p l e R s m args below meth c Q cl ft D cA b z nL n0 s0 A fl pc ls st L f :=
  fun H locs la g1 g2 hW hS hh => lv_aload_n hx hb hd hk (hh.2.2.2 _ _ hl).1 (kk H locs la g1 g2 hW hS hh)
theorem tg_iconst (hx : p.tables.exec = Jvm.exec) (hb : c.code = cc) {n : Int} {x : Int32} (hd : decode cc pc = .ok (.iconst n, 1)) (hv : Int32.ofInt n = x)
    (kk : tw_G p l e R s m args below meth c Q cl ft D cA b z nL n0 s0 A fl (pc + 1) ls (tw_I x :: st) L f) : tw_G p l e R s m args below meth c Q cl ft D cA b z nL n0 s0 A fl pc ls st L f :=
  fun H locs la g1 g2 hW hS hh => lv_iconst hx hb hd hv (kk H locs la g1 g2 hW hS hh)
theorem tg_bipush (hx : p.tables.exec = Jvm.exec) (hb : c.code = cc) {n : Int} {x : Int32} (hd : decode cc pc = .ok (.bipush n, 2)) (hv : (Int8.ofInt n).toInt32 = x)
    (kk : tw_G p l e R s m args below meth c Q cl ft D cA b z nL n0 s0 A fl (pc + 2) ls (tw_I x :: st) L f) : tw_G p l e R s m args below meth c Q cl ft D cA b z nL n0 s0 A fl pc ls st L f :=
  fun H locs la g1 g2 hW hS hh => lv_bipush hx hb hd hv (kk H locs la g1 g2 hW hS hh)
theorem tg_sipush (hx : p.tables.exec = Jvm.exec) (hb : c.code = cc) {n : Int} {x : Int32} (hd : decode cc pc = .ok (.sipush n, 3)) (hv : (Int16.ofInt n).toInt32 = x)
    (kk : tw_G p l e R s m args below meth c Q cl ft D cA b z nL n0 s0 A fl (pc + 3) ls (tw_I x :: st) L f) : tw_G p l e R s m args below meth c Q cl ft D cA b z nL n0 s0 A fl pc ls st L f :=
  fun H locs la g1 g2 hW hS hh => lv_sipush hx hb hd hv (kk H locs la g1 g2 hW hS hh)
theorem tg_istore_n (hx : p.tables.exec = Jvm.exec) (hb : c.code = cc) {a : Nat} {k : Fin 4} {x : Int32} (hd : decode cc pc = .ok (.istore_n k, 1)) (hk : (k : Nat) = a) (ha : a < ls.length)
    (kk : tw_G p l e R s m args below meth c Q cl ft D cA b z nL n0 s0 A fl (pc + 1) (ls.set a (some (tw_I x))) st L f) : tw_G p l e R s m args below meth c Q cl ft D cA b z nL n0 s0 A fl pc ls (tw_I x :: st) L f :=
  fun H locs _ g1 g2 hW hS hh => lv_istore_n hx hb hd hk hh.has (Nat.lt_of_lt_of_le ha hh.2.2.1) rfl (fun la' h' => kk H locs la' g1 g2 hW hS (hh.set (v := tw_I x) rfl (Nat.lt_of_lt_of_le ha hh.2.2.1) h'))
theorem tg_istore (hx : p.tables.exec = Jvm.exec) (hb : c.code = cc) {a : Nat} {x : Int32} (hd : decode cc pc = .ok (.istore a, 2)) (ha : a < ls.length)
    (kk : tw_G p l e R s m args below meth c Q cl ft D cA b z nL n0 s0 A fl (pc + 2) (ls.set a (some (tw_I x))) st L f) : tw_G p l e R s m args below meth c Q cl ft D cA b z nL n0 s0 A fl pc ls (tw_I x :: st) L f :=
  fun H locs _ g1 g2 hW hS hh => lv_istore hx hb hd hh.has (Nat.lt_of_lt_of_le ha hh.2.2.1) rfl (fun la' h' => kk H locs la' g1 g2 hW hS (hh.set (v := tw_I x) rfl (Nat.lt_of_lt_of_le ha hh.2.2.1) h'))
theorem tg_astore_n (hx : p.tables.exec = Jvm.exec) (hb : c.code = cc) {a q : Nat} {k : Fin 4} (hd : decode cc pc = .ok (.astore_n k, 1)) (hk : (k : Nat) = a) (ha : a < ls.length)
    (kk : tw_G p l e R s m args below meth c Q cl ft D cA b z nL n0 s0 A fl (pc + 1) (ls.set a (some (tw_R q))) st L f) : tw_G p l e R s m args below meth c Q cl ft D cA b z nL n0 s0 A fl pc ls (tw_R q :: st) L f :=
  fun H locs _ g1 g2 hW hS hh => lv_astore_n hx hb hd hk hh.has (Nat.lt_of_lt_of_le ha hh.2.2.1) rfl (fun la' h' => kk H locs la' g1 g2 hW hS (hh.set (v := tw_R q) rfl (Nat.lt_of_lt_of_le ha hh.2.2.1) h'))
theorem tg_astore (hx : p.tables.exec = Jvm.exec) (hb : c.code = cc) {a q : Nat} (hd : decode cc pc = .ok (.astore a, 2)) (ha : a < ls.length)
    (kk : tw_G p l e R s m args below meth c Q cl ft D cA b z nL n0 s0 A fl (pc + 2) (ls.set a (some (tw_R q))) st L f) : tw_G p l e R s m args below meth c Q cl ft D cA b z nL n0 s0 A fl pc ls (tw_R q :: st) L f :=
  fun H locs _ g1 g2 hW hS hh => lv_astore hx hb hd hh.has (Nat.lt_of_lt_of_le ha hh.2.2.1) rfl (fun la' h' => kk H locs la' g1 g2 hW hS (hh.set (v := tw_R q) rfl (Nat.lt_of_lt_of_le ha hh.2.2.1) h'))
theorem tg_iinc (hx : p.tables.exec = Jvm.exec) (hb : c.code = cc) {a : Nat} {n : Int} {x y : Int32} (hd : decode cc pc = .ok (.iinc a n, 3)) (hy : Int32.ofInt n = y) (hl : ls[a]? = some (some (tw_I x)))
    (kk : tw_G p l e R s m args below meth c Q cl ft D cA b z nL n0 s0 A fl (pc + 3) (ls.set a (some (tw_I (x + y)))) st L f) : tw_G p l e R s m args below meth c Q cl ft D cA b z nL n0 s0 A fl pc ls st L f := by
  intro H locs la g1 g2 hW hS hh
  have ha : a < nL := Nat.lt_of_lt_of_le (List.getElem?_eq_some_iff.mp hl).1 hh.2.2.1
  obtain ⟨i, hi⟩ := List.getElem?_of_mem (tw_ll_mem (b := b) (z := z) hl)
  exact lv_iinc hx hb hd hh.has hi (by rw [hy]) ha rfl (fun la' h' => kk H locs la' g1 g2 hW hS (hh.set (v := tw_I (x + y)) rfl ha h'))
theorem tg_iadd (hx : p.tables.exec = Jvm.exec) (hb : c.code = cc) {x y : Int32} (hd : decode cc pc = .ok (.iadd, 1))
    (kk : tw_G p l e R s m args below meth c Q cl ft D cA b z nL n0 s0 A fl (pc + 1) ls (tw_I (x + y) :: st) L f) : tw_G p l e R s m args below meth c Q cl ft D cA b z nL n0 s0 A fl pc ls (tw_I y :: tw_I x :: st) L f :=
  fun H locs la g1 g2 hW hS hh => lv_iadd hx hb hd (kk H locs la g1 g2 hW hS hh)
theorem tg_isub (hx : p.tables.exec = Jvm.exec) (hb : c.code = cc) {x y : Int32} (hd : decode cc pc = .ok (.isub, 1))
    (kk : tw_G p l e R s m args below meth c Q cl ft D cA b z nL n0 s0 A fl (pc + 1) ls (tw_I (x - y) :: st) L f) : tw_G p l e R s m args below meth c Q cl ft D cA b z nL n0 s0 A fl pc ls (tw_I y :: tw_I x :: st) L f :=
  fun H locs la g1 g2 hW hS hh => lv_isub hx hb hd (kk H locs la g1 g2 hW hS hh)
theorem tg_imul (hx : p.tables.exec = Jvm.exec) (hb : c.code = cc) {x y : Int32} (hd : decode cc pc = .ok (.imul, 1))
    (kk : tw_G p l e R s m args below meth c Q cl ft D cA b z nL n0 s0 A fl (pc + 1) ls (tw_I (x * y) :: st) L f) : tw_G p l e R s m args below meth c Q cl ft D cA b z nL n0 s0 A fl pc ls (tw_I y :: tw_I x :: st) L f :=
  fun H locs la g1 g2 hW hS hh => lv_imul hx hb hd (kk H locs la g1 g2 hW hS hh)
theorem tg_iand (hx : p.tables.exec = Jvm.exec) (hb : c.code = cc) {x y : Int32} (hd : decode cc pc = .ok (.iand, 1))
    (kk : tw_G p l e R s m args below meth c Q cl ft D cA b z nL n0 s0 A fl (pc + 1) ls (tw_I (x &&& y) :: st) L f) : tw_G p l e R s m args below meth c Q cl ft D cA b z nL n0 s0 A fl pc ls (tw_I y :: tw_I x :: st) L f :=
  fun H locs la g1 g2 hW hS hh => lv_iand hx hb hd (kk H locs la g1 g2 hW hS hh)
theorem tg_ior (hx : p.tables.exec = Jvm.exec) (hb : c.code = cc) {x y : Int32} (hd : decode cc pc = .ok (.ior, 1))
    (kk : tw_G p l e R s m args below meth c Q cl ft D cA b z nL n0 s0 A fl (pc + 1) ls (tw_I (x ||| y) :: st) L f) : tw_G p l e R s m args below meth c Q cl ft D cA b z nL n0 s0 A fl pc ls (tw_I y :: tw_I x :: st) L f :=
  fun H locs la g1 g2 hW hS hh => lv_ior hx hb hd (kk H locs la g1 g2 hW hS hh)
theorem tg_ixor (hx : p.tables.exec = Jvm.exec) (hb : c.code = cc) {x y : Int32} (hd : decode cc pc = .ok (.ixor, 1))
    (kk : tw_G p l e R s m args below meth c Q cl ft D cA b z nL n0 s0 A fl (pc + 1) ls (tw_I (x ^^^ y) :: st) L f) : tw_G p l e R s m args below meth c Q cl ft D cA b z nL n0 s0 A fl pc ls (tw_I y :: tw_I x :: st) L f :=
  fun H locs la g1 g2 hW hS hh => lv_ixor hx hb hd (kk H locs la g1 g2 hW hS hh)
theorem tg_ishl (hx : p.tables.exec = Jvm.exec) (hb : c.code = cc) {x y : Int32} (hd : decode cc pc = .ok (.ishl, 1))
    (kk : tw_G p l e R s m args below meth c Q cl ft D cA b z nL n0 s0 A fl (pc + 1) ls (tw_I (x <<< (y &&& 31)) :: st) L f) : tw_G p l e R s m args below meth c Q cl ft D cA b z nL n0 s0 A fl pc ls (tw_I y :: tw_I x :: st) L f :=
  fun H locs la g1 g2 hW hS hh => lv_ishl hx hb hd (kk H locs la g1 g2 hW hS hh)
theorem tg_ishr (hx : p.tables.exec = Jvm.exec) (hb : c.code = cc) {x y : Int32} (hd : decode cc pc = .ok (.ishr, 1))
    (kk : tw_G p l e R s m args below meth c Q cl ft D cA b z nL n0 s0 A fl (pc + 1) ls (tw_I (x >>> (y &&& 31)) :: st) L f) : tw_G p l e R s m args below meth c Q cl ft D cA b z nL n0 s0 A fl pc ls (tw_I y :: tw_I x :: st) L f :=
  fun H locs la g1 g2 hW hS hh => lv_ishr hx hb hd (kk H locs la g1 g2 hW hS hh)
theorem tg_idiv (hx : p.tables.exec = Jvm.exec) (hb : c.code = cc) {x y : Int32} (hd : decode cc pc = .ok (.idiv, 1)) (hy : ¬ y = 0)
    (kk : tw_G p l e R s m args below meth c Q cl ft D cA b z nL n0 s0 A fl (pc + 1) ls (tw_I (x / y) :: st) L f) : tw_G p l e R s m args below meth c Q cl ft D cA b z nL n0 s0 A fl pc ls (tw_I y :: tw_I x :: st) L f :=
  fun H locs la g1 g2 hW hS hh => lv_idiv hx hb hd hy (kk H locs la g1 g2 hW hS hh)
theorem tg_irem (hx : p.tables.exec = Jvm.exec) (hb : c.code = cc) {x y : Int32} (hd : decode cc pc = .ok (.irem, 1)) (hy : ¬ y = 0)
    (kk : tw_G p l e R s m args below meth c Q cl ft D cA b z nL n0 s0 A fl (pc + 1) ls (tw_I (x - x / y * y) :: st) L f) : tw_G p l e R s m args below meth c Q cl ft D cA b z nL n0 s0 A fl pc ls (tw_I y :: tw_I x :: st) L f :=
  fun H locs la g1 g2 hW hS hh => lv_irem hx hb hd hy (kk H locs la g1 g2 hW hS hh)
/-- a branch's condition: 0 equal, 1 not equal, 2 less, 3 at least, 4 greater, else at most -/
def tw_cd (a : Nat) (x y : Int32) : Prop := if a = 0 then x = y else if a = 1 then ¬ x = y else if a = 2 then x < y else if a = 3 then y ≤ x else if a = 4 then y < x else x ≤ y
def tw_if (a : Nat) (off : Int) : Instr := if a = 0 then .ifCond .eq off else if a = 1 then .ifCond .ne off else if a = 2 then .ifCond .lt off else if a = 3 then .ifCond .ge off else if a = 4 then .ifCond .gt off else .ifCond .le off
def tw_ic (a : Nat) (off : Int) : Instr := if a = 0 then .if_icmp .eq off else if a = 1 then .if_icmp .ne off else if a = 2 then .if_icmp .lt off else if a = 3 then .if_icmp .ge off else if a = 4 then .if_icmp .gt off else .if_icmp .le off
theorem tg_if (hx : p.tables.exec = Jvm.exec) (hb : c.code = cc) {a tgt : Nat} {off : Int} {x : Int32} (hd : decode cc pc = .ok (tw_if a off, 3)) (ht : (pc : Int) + off = (tgt : Int))
    (kt : tw_cd a x 0 → tw_G p l e R s m args below meth c Q cl ft D cA b z nL n0 s0 A fl tgt ls st L f) (kf : ¬ tw_cd a x 0 → tw_G p l e R s m args below meth c Q cl ft D cA b z nL n0 s0 A fl (pc + 3) ls st L f) : tw_G p l e R s m args below meth c Q cl ft D cA b z nL n0 s0 A fl pc ls (tw_I x :: st) L f := by
  intro H locs la g1 g2 hW hS hh
  unfold tw_if at hd
  unfold tw_cd at kt kf
  by_cases h0 : a = 0
  · simp only [if_pos h0] at hd kt kf
    exact lv_if_eq hx hb hd ht (fun h => kt h H locs la g1 g2 hW hS hh) (fun h => kf h H locs la g1 g2 hW hS hh)
  · simp only [if_neg h0] at hd kt kf
    by_cases h1 : a = 1
    · simp only [if_pos h1] at hd kt kf
      exact lv_if_ne hx hb hd ht (fun h => kt h H locs la g1 g2 hW hS hh) (fun h => kf (fun g => g h) H locs la g1 g2 hW hS hh)
    · simp only [if_neg h1] at hd kt kf
      by_cases h2 : a = 2
      · simp only [if_pos h2] at hd kt kf
        exact lv_if_lt hx hb hd ht (fun h => kt h H locs la g1 g2 hW hS hh) (fun h => kf h H locs la g1 g2 hW hS hh)
      · simp only [if_neg h2] at hd kt kf
        by_cases h3 : a = 3
        · simp only [if_pos h3] at hd kt kf
          exact lv_if_ge hx hb hd ht (fun h => kt h H locs la g1 g2 hW hS hh) (fun h => kf h H locs la g1 g2 hW hS hh)
        · simp only [if_neg h3] at hd kt kf
          by_cases h4 : a = 4
          · simp only [if_pos h4] at hd kt kf
            exact lv_if_gt hx hb hd ht (fun h => kt h H locs la g1 g2 hW hS hh) (fun h => kf h H locs la g1 g2 hW hS hh)
          · simp only [if_neg h4] at hd kt kf
            exact lv_if_le hx hb hd ht (fun h => kt h H locs la g1 g2 hW hS hh) (fun h => kf h H locs la g1 g2 hW hS hh)
theorem tg_icmp (hx : p.tables.exec = Jvm.exec) (hb : c.code = cc) {a tgt : Nat} {off : Int} {x y : Int32} (hd : decode cc pc = .ok (tw_ic a off, 3)) (ht : (pc : Int) + off = (tgt : Int))
    (kt : tw_cd a x y → tw_G p l e R s m args below meth c Q cl ft D cA b z nL n0 s0 A fl tgt ls st L f) (kf : ¬ tw_cd a x y → tw_G p l e R s m args below meth c Q cl ft D cA b z nL n0 s0 A fl (pc + 3) ls st L f) : tw_G p l e R s m args below meth c Q cl ft D cA b z nL n0 s0 A fl pc ls (tw_I y :: tw_I x :: st) L f := by
  intro H locs la g1 g2 hW hS hh
  unfold tw_ic at hd
  unfold tw_cd at kt kf
  by_cases h0 : a = 0
  · simp only [if_pos h0] at hd kt kf
    exact lv_icmp_eq hx hb hd ht (fun h => kt h H locs la g1 g2 hW hS hh) (fun h => kf h H locs la g1 g2 hW hS hh)
  · simp only [if_neg h0] at hd kt kf
    by_cases h1 : a = 1
    · simp only [if_pos h1] at hd kt kf
      exact lv_icmp_ne hx hb hd ht (fun h => kt h H locs la g1 g2 hW hS hh) (fun h => kf (fun g => g h) H locs la g1 g2 hW hS hh)
    · simp only [if_neg h1] at hd kt kf
      by_cases h2 : a = 2
      · simp only [if_pos h2] at hd kt kf
        exact lv_icmp_lt hx hb hd ht (fun h => kt h H locs la g1 g2 hW hS hh) (fun h => kf h H locs la g1 g2 hW hS hh)
      · simp only [if_neg h2] at hd kt kf
        by_cases h3 : a = 3
        · simp only [if_pos h3] at hd kt kf
          exact lv_icmp_ge hx hb hd ht (fun h => kt h H locs la g1 g2 hW hS hh) (fun h => kf h H locs la g1 g2 hW hS hh)
        · simp only [if_neg h3] at hd kt kf
          by_cases h4 : a = 4
          · simp only [if_pos h4] at hd kt kf
            exact lv_icmp_gt hx hb hd ht (fun h => kt h H locs la g1 g2 hW hS hh) (fun h => kf h H locs la g1 g2 hW hS hh)
          · simp only [if_neg h4] at hd kt kf
            exact lv_icmp_le hx hb hd ht (fun h => kt h H locs la g1 g2 hW hS hh) (fun h => kf h H locs la g1 g2 hW hS hh)
theorem tg_goto (hx : p.tables.exec = Jvm.exec) (hb : c.code = cc) {tgt : Nat} {off : Int} (hd : decode cc pc = .ok (.goto off, 3)) (ht : (pc : Int) + off = (tgt : Int))
    (kk : tw_G p l e R s m args below meth c Q cl ft D cA b z nL n0 s0 A fl tgt ls st L f) : tw_G p l e R s m args below meth c Q cl ft D cA b z nL n0 s0 A fl pc ls st L f :=
  fun H locs la g1 g2 hW hS hh => lv_goto hx hb hd ht (kk H locs la g1 g2 hW hS hh)
theorem tg_dup (hx : p.tables.exec = Jvm.exec) (hb : c.code = cc) {v : tw_A} (hd : decode cc pc = .ok (.dup, 1)) (hv : tw_ct v = 1)
    (kk : tw_G p l e R s m args below meth c Q cl ft D cA b z nL n0 s0 A fl (pc + 1) ls (v :: v :: st) L f) : tw_G p l e R s m args below meth c Q cl ft D cA b z nL n0 s0 A fl pc ls (v :: st) L f :=
  fun H locs la g1 g2 hW hS hh => lv_dup hx hb hd (by rw [tw_ct_v]; exact hv) (kk H locs la g1 g2 hW hS hh)
theorem tg_dup2 (hx : p.tables.exec = Jvm.exec) (hb : c.code = cc) {v w : tw_A} (hd : decode cc pc = .ok (.dup2, 1)) (hv : tw_ct v = 1) (hw : tw_ct w = 1)
    (kk : tw_G p l e R s m args below meth c Q cl ft D cA b z nL n0 s0 A fl (pc + 1) ls (v :: w :: v :: w :: st) L f) : tw_G p l e R s m args below meth c Q cl ft D cA b z nL n0 s0 A fl pc ls (v :: w :: st) L f :=
  fun H locs la g1 g2 hW hS hh => lv_dup2_11 hx hb hd (by rw [tw_ct_v]; exact hv) (by rw [tw_ct_v]; exact hw) (kk H locs la g1 g2 hW hS hh)
theorem tg_max (hx : p.tables.exec = Jvm.exec) (hb : c.code = cc) (hml : c.maxLocals = nL) {own : String} {idx : Nat} (hown : s.vm.findClass own = some m.cls) (hlink : (Cond.methodLink own idx Lib.Math.max.name).before args s = true) (hstat : (Cond.static Lib.Math.max.name).before args s = true) (hini : (Cond.initialized "java/lang/Math").before args s = true) (hcode : (Cond.code Lib.Math.max.name Lib.Math.max.code 2 (some .int)).before args s = true)
    (hframes : 1 ≤ R.frames) (hlocals : (st.map tw_ct).sum + 13 ≤ R.locals) (hc : (((L.length : Nat) : Int) - n0).toNat ≤ R.cells) (hs : (((tw_sl L : Nat) : Int) - s0).toNat ≤ R.slots) {x y : Int32} (hd : decode cc pc = .ok (.invokestatic idx, 3))
    (kk : tw_G p l e R s m args below meth c Q cl ft D cA b z nL n0 s0 A fl (pc + 3) ls (tw_I (if x < y then y else x) :: st) L f) : tw_G p l e R s m args below meth c Q cl ft D cA b z nL n0 s0 A fl pc ls (tw_I y :: tw_I x :: st) L f := by
  intro H locs la g1 g2 hW hS hh
  refine va_mmax hx hb (by rw [hml, hh.1]) hown hlink hstat hini hcode hframes ?_ hc hs hd (kk H locs la g1 g2 hW hS hh)
  rw [List.map_map]
  have h : ((fun v : Value => v.category) ∘ tw_v b z) = tw_ct := by
    funext a
    exact tw_ct_v b z a
  rw [h]
  exact hlocals
theorem tg_objInit (hx : p.tables.exec = Jvm.exec) (hb : c.code = cc) (hml : c.maxLocals = nL) {own : String} {idx q : Nat} (hown : s.vm.findClass own = some m.cls) (hlink : (Cond.methodLink own idx Lib.objectInit).before args s = true) (hinst : (Cond.instanceMethod Lib.objectInit).before args s = true) (hcode : (Cond.code Lib.objectInit ⟨#[0xb1]⟩ 1 none).before args s = true)
    (hframes : 1 ≤ R.frames) (hlocals : (st.map tw_ct).sum + 12 ≤ R.locals) (hd : decode cc pc = .ok (.invokespecial idx, 3))
    (kk : tw_G p l e R s m args below meth c Q cl ft D cA b z nL n0 s0 A fl (pc + 3) ls st L f) : tw_G p l e R s m args below meth c Q cl ft D cA b z nL n0 s0 A fl pc ls (tw_R q :: st) L f := by
  intro H locs la g1 g2 hW hS hh
  refine W.objInit hx hb hown hlink hinst hcode (g := F0 m pc la (((tw_R q) :: st).map (tw_v b z))) rfl (by rw [hml]; exact hh.1) (a := b + q) (rest := st.map (tw_v b z)) rfl hd hframes ?_ (kk H locs la g1 g2 hW hS hh)
  rw [List.map_map]
  have h : ((fun v : Value => v.category) ∘ tw_v b z) = tw_ct := by
    funext a
    exact tw_ct_v b z a
  rw [h]
  show 2 * 0 + _ + 12 ≤ _
  omega
end ROWS
