/-! The rules are sound: what they say of a method is a contract that the machine meets. -/
def tw_Sp (mt : List tw_MR) (sw : tw_SW) (ft : Nat → Nat → Nat) (fl : Bool) : Nat → tw_SP
  | 0 => fun _ _ _ _ _ _ => False
  | d + 1 => fun k As L f L2 P => ∃ r, mt[k]? = some r ∧ As.all (fun a => tw_ct a == 1) = true ∧ As.length ≤ r.2.2.2.2.1 ∧ ∀ X : tw_X, tw_Cl mt sw ft fl none (tw_Sp mt sw ft fl d) L2 P r.2.2.2.2.2.2.2 X → X 0 (tw_in r.2.2.2.2.1 As) [] L f
def tw_pc (t : tw_T) (ix : Nat) : Nat := match t[ix]? with
  | some r => r.1
  | none => 0
/-- the instruction that a row of a table stands for, and its length -/
def tw_x (t : tw_T) (sw : tw_SW) (ix pc : Nat) (o : tw_O) : Instr × Nat := match o.1 with
  | 0 => (.iload_n (Fin.ofNat 4 o.2.1), 1)
  | 1 => (.iload o.2.1, 2)
  | 2 => (.aload_n (Fin.ofNat 4 o.2.1), 1)
  | 3 => (.aload o.2.1, 2)
  | 4 => (.iconst o.2.2.2.2.1, 1)
  | 5 => (.bipush o.2.2.2.2.1, 2)
  | 6 => (.sipush o.2.2.2.2.1, 3)
  | 7 => (.istore_n (Fin.ofNat 4 o.2.1), 1)
  | 8 => (.istore o.2.1, 2)
  | 9 => (.astore_n (Fin.ofNat 4 o.2.1), 1)
  | 10 => (.astore o.2.1, 2)
  | 11 => (.iinc o.2.1 o.2.2.2.2.1, 3)
  | 12 => (.iadd, 1)
  | 13 => (.isub, 1)
  | 14 => (.imul, 1)
  | 15 => (.iand, 1)
  | 16 => (.ior, 1)
  | 17 => (.ixor, 1)
  | 18 => (.ishl, 1)
  | 19 => (.ishr, 1)
  | 20 => (.idiv, 1)
  | 21 => (.irem, 1)
  | 22 => (tw_if o.2.1 ((tw_pc t o.2.2.1 : Int) - (pc : Int)), 3)
  | 23 => (tw_ic o.2.1 ((tw_pc t o.2.2.1 : Int) - (pc : Int)), 3)
  | 24 => (.goto ((tw_pc t o.2.2.1 : Int) - (pc : Int)), 3)
  | 25 => (.dup, 1)
  | 26 => (.dup2, 1)
  | 27 => (.getfield o.2.2.2.1, 3)
  | 28 => (.putfield o.2.2.2.1, 3)
  | 29 => (.putfield o.2.2.2.1, 3)
  | 30 => (.putfield o.2.2.2.1, 3)
  | 31 => (.iaload, 1)
  | 32 => (.baload, 1)
  | 33 => (.iastore, 1)
  | 34 => (.bastore, 1)
  | 35 => (.invokevirtual o.2.2.2.1, 3)
  | 36 => (.invokestatic o.2.2.2.1, 3)
  | 37 => (.invokespecial o.2.2.2.1, 3)
  | 38 => (.ireturn, 1)
  | 39 => (.ireturn, 1)
  | 40 => (.return_, 1)
  | 41 => (.areturn, 1)
  | 42 => (.new o.2.2.2.1, 3)
  | 43 => (.newarray (tw_at o.2.1), 2)
  | 44 => (.invokespecial o.2.2.2.1, 3)
  | 45 => (.invokestatic o.2.2.2.1, 3)
  | 46 => (match sw[o.2.1]? with
    | some s => .tableswitch ((tw_pc t s.2.2 : Int) - (pc : Int)) s.1 (s.1 + (s.2.1.length : Int) - 1) (s.2.1.map (fun j => (tw_pc t j : Int) - (pc : Int))).toArray
    | none => .nop, tw_pc t (ix + 1) - pc)
  | 47 => (.aload_n (Fin.ofNat 4 o.2.1), 1)
  | 48 => (.iaload, 1)
  | 49 => (.arraylength, 1)
  | 50 => (.laload, 1)
  | 51 => (.i2l, 1)
  | 52 => (.lcmp, 1)
  | _ => (.nop, 1)
def tw_kd (mt : List tw_MR) (k d c : Nat) : Bool := match mt[k]? with
  | some r => decide (r.2.2.2.2.2.2.1.1 = d) && decide (r.2.2.2.2.2.2.1.2.1 = c)
  | none => false
def tw_fit (mt : List tw_MR) (k : Nat) (r : tw_MR) : Bool := match mt[k]? with
  | some x => decide (x.2.2.2.2.2.2.1.2.2.2.1 + 1 ≤ r.2.2.2.2.2.2.1.2.2.2.1 ∧ 8 + (x.2.2.2.2.1 + 11) + x.2.2.2.2.2.2.1.2.2.2.2 ≤ r.2.2.2.2.2.2.1.2.2.2.2)
  | none => false
def tw_isR (t : Option FieldType) : Bool := match t with
  | some (.object _) => true
  | some (.array _) => true
  | _ => false
def tw_sok (sw : tw_SW) (k : Nat) : Bool := match sw[k]? with
  | some s => decide (0 < s.2.1.length) && decide (s.2.1.length < 1000) && decide (s.1 = 0)
  | none => false
abbrev tw_LK : Type := List (Nat × Nat × Nat × Nat × Nat) × List (Nat × Nat × Nat) × List (Nat × Nat × Nat × Nat) × List (Nat × Nat) × List (Nat × Nat)
/-- what a row needs beside its bytes: links by their places (fields; methods; classes; Object's constructor; Math.max), constants, the kind of end -/
def tw_wd (lk : tw_LK) (mt : List tw_MR) (sw : tw_SW) (r : tw_MR) (o : tw_O) : Bool := match o.1 with
  | 0 => decide (o.2.1 < 4)
  | 2 => decide (o.2.1 < 4)
  | 4 => decide (Int32.ofInt o.2.2.2.2.1 = o.2.2.2.2.2)
  | 5 => decide ((Int8.ofInt o.2.2.2.2.1).toInt32 = o.2.2.2.2.2)
  | 6 => decide ((Int16.ofInt o.2.2.2.2.1).toInt32 = o.2.2.2.2.2)
  | 7 => decide (o.2.1 < 4)
  | 9 => decide (o.2.1 < 4)
  | 11 => decide (Int32.ofInt o.2.2.2.2.1 = o.2.2.2.2.2)
  | 27 => decide (lk.1[o.2.2.2.2.1.toNat]? = some (r.1, o.2.2.2.1, o.2.1, o.2.2.1, 0)) || decide (lk.1[o.2.2.2.2.1.toNat]? = some (r.1, o.2.2.2.1, o.2.1, o.2.2.1, 1))
  | 28 => decide (lk.1[o.2.2.2.2.1.toNat]? = some (r.1, o.2.2.2.1, o.2.1, o.2.2.1, 0))
  | 29 => decide (lk.1[o.2.2.2.2.1.toNat]? = some (r.1, o.2.2.2.1, o.2.1, o.2.2.1, 1)) && decide (r.2.2.2.2.2.2.1.1 = 2) && decide (r.2.2.2.2.2.2.1.2.1 = o.2.1)
  | 30 => decide (lk.1[o.2.2.2.2.1.toNat]? = some (r.1, o.2.2.2.1, o.2.1, o.2.2.1, 1)) && decide (r.2.2.2.2.2.2.1.1 = 2) && decide (r.2.2.2.2.2.2.1.2.1 = o.2.1)
  | 35 => decide (lk.2.1[o.2.2.2.2.1.toNat]? = some (r.1, o.2.2.2.1, o.2.1)) && tw_kd mt o.2.1 1 o.2.2.1 && tw_fit mt o.2.1 r
  | 36 => decide (lk.2.1[o.2.2.2.2.1.toNat]? = some (r.1, o.2.2.2.1, o.2.1)) && tw_kd mt o.2.1 0 0 && tw_fit mt o.2.1 r
  | 37 => decide (lk.2.1[o.2.2.2.2.1.toNat]? = some (r.1, o.2.2.2.1, o.2.1)) && tw_kd mt o.2.1 2 o.2.2.1 && tw_fit mt o.2.1 r
  | 38 => decide (r.2.2.2.2.2.1 = some .int)
  | 39 => decide (r.2.2.2.2.2.1 = some .boolean)
  | 40 => decide (r.2.2.2.2.2.1 = none)
  | 41 => tw_isR r.2.2.2.2.2.1
  | 42 => decide (lk.2.2.1[o.2.2.2.2.1.toNat]? = some (r.1, o.2.2.2.1, o.2.1, o.2.2.1))
  | 43 => decide (o.2.1 = 100 ∨ o.2.1 = 101 ∨ o.2.1 = 102)
  | 44 => decide (lk.2.2.2.1[o.2.2.2.2.1.toNat]? = some (r.1, o.2.2.2.1)) && decide (1 ≤ r.2.2.2.2.2.2.1.2.2.2.1 ∧ 12 ≤ r.2.2.2.2.2.2.1.2.2.2.2)
  | 45 => decide (lk.2.2.2.2[o.2.2.2.2.1.toNat]? = some (r.1, o.2.2.2.1)) && decide (1 ≤ r.2.2.2.2.2.2.1.2.2.2.1 ∧ 14 ≤ r.2.2.2.2.2.2.1.2.2.2.2)
  | 46 => tw_sok sw o.2.1
  | 47 => decide (o.2.1 < 4)
  | _ => true
/-- does the instruction go on to the next row? -/
def tw_th (o : tw_O) : Bool := match o.1 with
  | 24 => false
  | 38 => false
  | 39 => false
  | 40 => false
  | 41 => false
  | 46 => false
  | _ => true
def tw_ck (lk : tw_LK) (mt : List tw_MR) (sw : tw_SW) (r : tw_MR) (ix : Nat) (x : Nat × tw_O) : Bool :=
  Nat.beq x.2.1 99 || (decide (decode r.2.2.2.1 x.1 = .ok (tw_x r.2.2.2.2.2.2.2 sw ix x.1 x.2)) && (!tw_th x.2 || decide (tw_pc r.2.2.2.2.2.2.2 (ix + 1) = x.1 + (tw_x r.2.2.2.2.2.2.2 sw ix x.1 x.2).2)) && tw_wd lk mt sw r x.2)
def tw_cm (lk : tw_LK) (mt : List tw_MR) (sw : tw_SW) (r : tw_MR) : Bool := r.2.2.2.2.2.2.2.zipIdx.all (fun x => tw_ck lk mt sw r x.2 x.1)
