/-! A method that the rules give has its contract at the machine. -/
theorem tw_sl_len (vs : List Value) (h : ∀ v ∈ vs, v.category = 1) : (lg_sl vs).length = vs.length := by
  induction vs with
  | nil => rfl
  | cons v vs ih =>
    have h1 : v.category = 1 := h v List.mem_cons_self
    have h2 := ih (fun w hw => h w (List.mem_cons_of_mem _ hw))
    have h3 : lg_sl (v :: vs) = [Slot.val v] ++ lg_sl vs := by
      unfold lg_sl
      rw [List.flatMap_cons, if_neg (by omega)]
    rw [h3, List.length_append, h2, List.length_cons, List.length_cons, List.length_nil]
    omega
theorem tw_args_mem (vs : List Value) (h : ∀ v ∈ vs, v.category = 1) : ∀ (j i : Nat) (v : Value), vs[i]? = some v → (j + i, v) ∈ lv_args j vs := by
  induction vs with
  | nil => intro j i v hi; simp at hi
  | cons w vs ih =>
    intro j i v hi
    have h1 : w.category = 1 := h w List.mem_cons_self
    have h3 : lv_args j (w :: vs) = (j, w) :: lv_args (j + 1) vs := by
      show (j, w) :: lv_args (if w.category = 2 then j + 2 else j + 1) vs = _
      rw [if_neg (by omega)]
    rw [h3]
    cases i with
    | zero =>
      rw [List.getElem?_cons_zero] at hi
      cases hi
      exact List.mem_cons_self
    | succ i =>
      rw [List.getElem?_cons_succ] at hi
      have h4 := ih (fun w hw => h w (List.mem_cons_of_mem _ hw)) (j + 1) i v hi
      rw [show j + (i + 1) = j + 1 + i by omega]
      exact List.mem_cons_of_mem _ h4
theorem tw_entry {b z n : Nat} {As : List tw_A} (hall : As.all (fun a => tw_ct a == 1) = true) (hlen : As.length ≤ n) : tw_lh b z n (tw_in n As) ((lg_sl (As.map (tw_v b z)) ++ List.replicate (n - (lg_sl (As.map (tw_v b z))).length) Slot.unset).toArray) := by
  have hc1 : ∀ a ∈ As, tw_ct a = 1 := fun a ha => by
    have h1 := List.all_eq_true.mp hall a ha
    exact beq_iff_eq.mp h1
  have hc : ∀ v ∈ As.map (tw_v b z), v.category = 1 := fun v hv => by
    obtain ⟨a, ha, rfl⟩ := List.mem_map.mp hv
    rw [tw_ct_v]
    exact hc1 a ha
  have h0 : (lg_sl (As.map (tw_v b z))).length ≤ n := by
    rw [tw_sl_len _ hc, List.length_map]
    exact hlen
  have hl := lv_entry (As.map (tw_v b z)) (n := n) h0
  refine ⟨hl.1, hl.2.1, ?_, fun i v hi => ?_⟩
  · unfold tw_in
    rw [List.length_append, List.length_map, List.length_replicate]
    omega
  · unfold tw_in at hi
    by_cases hlt : i < As.length
    · rw [List.getElem?_append_left (by rw [List.length_map]; exact hlt), List.getElem?_map] at hi
      cases ha : As[i]? with
      | none => rw [ha] at hi; cases hi
      | some a =>
        rw [ha] at hi
        have h1 : a = v := Option.some.inj (Option.some.inj hi)
        subst h1
        have h2 := tw_args_mem (As.map (tw_v b z)) hc 0 i (tw_v b z a) (by rw [List.getElem?_map, ha]; rfl)
        rw [Nat.zero_add] at h2
        exact ⟨hl.2.2 _ h2, hc1 a (List.mem_of_getElem? ha)⟩
    · rw [List.getElem?_append_right (by rw [List.length_map]; omega), List.getElem?_replicate] at hi
      split at hi
      · cases hi
      · cases hi
theorem tw_met1 {l : Launch} {cl : List vw_C} {ft : Nat → Nat → Nat} {ty : Nat → Nat → FieldType} {mt : List tw_MR} {sw : tw_SW} {lk : tw_LK} {nm : Nat → String} {Ts : List Cond} {Nm : List tw_N} {D : va_G} {cA : Nat → ClassId} {b z : Nat} {fl : Bool} {A : Nat → Prop} {Sp0 : tw_SP} (hOK : tw_OK cl ft ty mt sw lk nm Ts Nm) (ih : tw_MT l cl ft mt Ts Nm D cA [(cA 100, .int), (cA 101, .boolean), (cA 102, .long)] b z A fl Sp0) {k : Nat} {r : tw_MR} {As : List tw_A} {L L2 : tw_L} {f : tw_S} {P : tw_S → Option tw_A → Prop} (hr : mt[k]? = some r) (hA : ∀ (ix : Nat) (x : Nat × tw_O), r.2.2.2.2.2.2.2[ix]? = some x → x.2.1 = 28 ∨ x.2.1 = 29 ∨ x.2.1 = 30 ∨ x.2.1 = 33 ∨ x.2.1 = 34 → ∀ y, b ≤ y → A y) (hall : As.all (fun a => tw_ct a == 1) = true) (hlen : As.length ≤ r.2.2.2.2.1) (hX : ∀ X : tw_X, tw_Cl mt sw ft fl none Sp0 L2 P r.2.2.2.2.2.2.2 X → X 0 (tw_in r.2.2.2.2.1 As) [] L f) :
    Met l (tw_my r) (Cond.code (tw_my r) r.2.2.2.1 r.2.2.2.2.1 r.2.2.2.2.2.1 :: Ts) (tw_rm r L L2) (tw_Pc cl ft D cA [(cA 100, .int), (cA 101, .boolean), (cA 102, .long)] Nm b z fl As L f) (tw_Qc cl ft D cA b z A fl L2 P) (L2.length - L.length) (tw_sl L2 - tw_sl L) A := by
  have hm := hOK.2.2.2.2.2.2.2.2 k r hr
  refine Met.ofW (cc := r.2.2.2.1) (maxL := r.2.2.2.2.1) (ret := r.2.2.2.2.2.1) hm.1.2.2.1 rfl ?_
  intro p e s m args below meth c s₁ B hml hv
  obtain ⟨rfl, hW, hK, hN⟩ := hv
  have hts0 := atoms_spec (ws := Cond.code (tw_my r) r.2.2.2.1 r.2.2.2.2.1 r.2.2.2.2.2.1 :: Ts) B.pre
  have hown : s.vm.findClass (tw_my r).cls = some m.cls := findClass_of_methodNamed B.named
  rw [hm.1.2.1, hm.1.1] at hown
  have hcl := tw_closed (n0 := (L.length : Int)) (s0 := ((tw_sl L : Nat) : Int)) (xs := none) (P := P) (Lf := L2) (R := tw_rm r L L2) (below := below) (l := l) (e := e) (z := z) (fl := fl) hOK hm.mw B.exec B.bytes hml B.returns B.notSynchronized (name_of_methodNamed B.named B.method).1 (fun w hw => hts0 w (List.mem_cons_of_mem _ hw)) hown hK hN (by have h9 := hW.2.1; omega) (fun N g h => by cases h) hA (Nat.le_refl _) (Nat.le_refl _) (by show _ ≤ L2.length - L.length; omega) (by show _ ≤ tw_sl L2 - tw_sl L; omega) (fun _ h => h) ih
  have h2 := hX _ hcl s.heap [] _ (Int.le_refl _) (Int.le_refl _) hW va_S.rf (tw_entry hall hlen)
  rw [hm.2.2.1.1, show (((L2.length : Nat) : Int) - (L.length : Int)).toNat = L2.length - L.length by omega, show (((tw_sl L2 : Nat) : Int) - ((tw_sl L : Nat) : Int)).toNat = tw_sl L2 - tw_sl L by omega, show (((L.length : Nat) : Int) - (L.length : Int)).toNat = 0 by omega, show (((tw_sl L : Nat) : Int) - ((tw_sl L : Nat) : Int)).toNat = 0 by omega] at h2
  rw [lg_entry_eq]
  exact h2
theorem tw_met {l : Launch} {cl : List vw_C} {ft : Nat → Nat → Nat} {ty : Nat → Nat → FieldType} {mt : List tw_MR} {sw : tw_SW} {lk : tw_LK} {nm : Nat → String} {Ts : List Cond} {Nm : List tw_N} {D : va_G} {cA : Nat → ClassId} {b z : Nat} {fl : Bool} {A : Nat → Prop} (hA : ∀ x, b ≤ x → A x) (hOK : tw_OK cl ft ty mt sw lk nm Ts Nm) (d : Nat) :
    tw_MT l cl ft mt Ts Nm D cA [(cA 100, .int), (cA 101, .boolean), (cA 102, .long)] b z A fl (tw_Sp mt sw ft fl d) := by
  induction d with
  | zero => exact fun _ _ _ _ _ _ h => h.elim
  | succ d ih =>
    intro k As L f L2 P hSp r hr
    obtain ⟨r', hr', hall, hlen, hX⟩ := hSp
    have hrr : r' = r := Option.some.inj (hr'.symm.trans hr)
    subst hrr
    exact tw_met1 hOK ih hr (fun _ _ _ _ => hA) hall hlen hX
/-- methods that call nothing and store nothing -/
def tw_pl (mt : List tw_MR) (k : Nat) : Bool := match mt[k]? with
  | some r => r.2.2.2.2.2.2.2.all (fun x => !(decide (x.2.1 = 28 ∨ x.2.1 = 29 ∨ x.2.1 = 30 ∨ x.2.1 = 33 ∨ x.2.1 = 34)))
  | none => false
def tw_Sl (mt : List tw_MR) (sw : tw_SW) (ft : Nat → Nat → Nat) (fl : Bool) : tw_SP := fun k As L f L2 P => tw_pl mt k = true ∧ tw_Sp mt sw ft fl 1 k As L f L2 P
theorem tw_metl {l : Launch} {cl : List vw_C} {ft : Nat → Nat → Nat} {ty : Nat → Nat → FieldType} {mt : List tw_MR} {sw : tw_SW} {lk : tw_LK} {nm : Nat → String} {Ts : List Cond} {Nm : List tw_N} {D : va_G} {cA : Nat → ClassId} {b z : Nat} {fl : Bool} {A : Nat → Prop} (hOK : tw_OK cl ft ty mt sw lk nm Ts Nm) :
    tw_MT l cl ft mt Ts Nm D cA [(cA 100, .int), (cA 101, .boolean), (cA 102, .long)] b z A fl (tw_Sl mt sw ft fl) := by
  intro k As L f L2 P hSp r hr
  obtain ⟨hpl, r', hr', hall, hlen, hX⟩ := hSp
  have hrr : r' = r := Option.some.inj (hr'.symm.trans hr)
  subst hrr
  refine tw_met1 (Sp0 := tw_Sp mt sw ft fl 0) hOK (fun _ _ _ _ _ _ h => h.elim) hr (fun ix x hx h9 => ?_) hall hlen hX
  unfold tw_pl at hpl
  rw [hr] at hpl
  have h8 := List.all_eq_true.mp hpl x (List.mem_of_getElem? hx)
  rw [decide_eq_true h9] at h8
  cases h8
theorem tw_Sp_of {mt : List tw_MR} {sw : tw_SW} {ft : Nat → Nat → Nat} {fl : Bool} {d k : Nat} {As : List tw_A} {L L2 : tw_L} {f : tw_S} {P : tw_S → Option tw_A → Prop} {r : tw_MR} (hr : mt[k]? = some r) (hall : As.all (fun a => tw_ct a == 1) = true) (hlen : As.length ≤ r.2.2.2.2.1)
    (h : ∀ X : tw_X, tw_Cl mt sw ft fl none (tw_Sp mt sw ft fl d) L2 P r.2.2.2.2.2.2.2 X → X 0 (tw_in r.2.2.2.2.1 As) [] L f) : tw_Sp mt sw ft fl (d + 1) k As L f L2 P := ⟨r, hr, hall, hlen, h⟩
theorem tw_isR_of {t : FieldType} (h : tw_isR (some t) = true) : (∃ C, t = .object C) ∨ ∃ u, t = .array u := by
  cases t with
  | object C => exact Or.inl ⟨C, rfl⟩
  | array u => exact Or.inr ⟨u, rfl⟩
  | _ => cases h
