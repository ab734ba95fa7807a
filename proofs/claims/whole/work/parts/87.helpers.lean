/-! The law's three helpers: a call of the class, its answer laid into the long array, or the exception caught. -/
theorem tg_lastore {p : Program} {l : Launch} {e : Env} {R : Room} {s : State} {m : MethodId} {args : Array Value} {below : List Frame} {meth : Method} {c : Code} {Q : State → Prop} {cl : List vw_C} {ft : Nat → Nat → Nat} {D : va_G} {cA : Nat → ClassId} {b z nL : Nat} {n0 s0 : Int} {A : Nat → Prop} {fl : Bool} {cc : ByteArray} {pc : Nat} {ls : List (Option tw_A)} {st : List tw_A} {L : tw_L} {f : tw_S} {tys : List (ClassId × FieldType)} {q n : Nat} {rs : List (Option Nat)} (hA : ∀ x, b ≤ x → A x) (hx : p.tables.exec = Jvm.exec) (hb : c.code = cc) (hK : va_K D cl tys s) {t0 : Nat} (ht : tys[t0]? = some (cA 102, .long)) (hd : decode cc pc = .ok (.lastore, 1)) {x y : Int32} (hq : L[q]? = some (102, n, rs)) (hin : vp_in x n)
    (kk : tw_G p l e R s m args below meth c Q cl ft D cA b z nL n0 s0 A fl (pc + 1) ls st L (tw_up f q x.toNatClampNeg y)) : tw_G p l e R s m args below meth c Q cl ft D cA b z nL n0 s0 A fl pc ls (tw_J y :: tw_I x :: tw_R q :: st) L f := by
  intro H locs la g1 g2 hW hS hh
  have h0 : H[b + q]? = some (arrV (cA 102) n (fun j => .long (f q j).toInt64)) := hW.at hq
  refine W.last hx hb (a := b + q) (rest := st.map (tw_v b z)) h0 ((hK.2 t0 _ ht).1 n (fun j => .long (f q j).toInt64)) (fun g => by cases g) (by rw [arrV_size]; exact hin) rfl rfl hd fun H1 e1 e2 e3 => ?_
  refine kk H1 _ la g1 g2 (hW.put (k := (102, n, rs)) rfl (fun _ _ => rfl) (fun j hj => tw_up_off hj) hq ?_ e2 e3) (hS.put e2 e3 (hA _ (Nat.le_add_right b q))) hh
  show H1[b + q]? = some (arrV (cA 102) n (fun j => .long (tw_up f q x.toNatClampNeg y q j).toInt64))
  rw [e1, arrV_store, tw_up_on]
  congr 2
  funext j
  by_cases hj : j = x.toNatClampNeg
  · subst hj
    simp [updV, upd]
  · simp [updV, upd, hj]
theorem MQ_more {below : List Frame} {Qc : Array Value → State → Outcome → State → Prop} {a : Array Value} {s : State} {mc ms mc2 ms2 : Nat} {free : Addr → Prop} (h1 : mc ≤ mc2) (h2 : ms ≤ ms2) (t : State) (h : MQ below Qc a s mc ms free t) : MQ below Qc a s mc2 ms2 free t := by
  obtain ⟨o, q1, q2, q3, L, ⟨f1, f2, f3⟩, q5⟩ := h
  exact ⟨o, q1, q2, q3, L, ⟨f1, f2, f3.mono h1 h2⟩, q5⟩
def rmH : Room := { frames := 7, cells := 1, slots := 6, locals := 145 }
abbrev tyA (cA : Nat → ClassId) : List (ClassId × FieldType) := [(cA 100, .int), (cA 101, .boolean), (cA 102, .long)]
set_option maxRecDepth 20000 in
theorem wt_ticket {f : tw_S} {tm : Nat} {x : Int32} (ht : f 6 5 = nI tm) (ht2 : tm ≤ 200) (hb : x < 0 ∨ nI tm ≤ x) (X : tw_X) (h : tw_Cl tx_mt tx_sw tx_ft false none (tw_Sl tx_mt tx_sw tx_ft false) tx_L0 (fun _ _ => False) tx_t106 X) (hX : ∀ ls, X 5 ls [] tx_L0 f) : X 0 (tw_in 2 [tw_R 0, tw_I x]) [] tx_L0 f := by
  refine zi_aload_n h rfl rfl ?_
  refine zg_ref h rfl (by first | rfl | assumption) (by decide) rfl rfl ?_
  refine zi_iload_n h rfl rfl ?_
  refine zk_V h [_] rfl (by first | rfl | assumption) rfl rfl (Nat.le_of_ble_eq_true rfl) ⟨by decide +kernel, s_thas (d := 0) ht ht2 (fun j g1 g2 => ?_) (fun g => ?_)⟩
  · exfalso
    rw [g2] at hb
    rcases hb with u | u
    · exact absurd u (nI_pos (by omega))
    · exact absurd ((nI_leI (by omega) (by omega)).mp u) (by omega)
  · exact zc_ifne h rfl (fun hc => absurd rfl hc) (fun _ => hX _)
set_option maxRecDepth 20000 in
theorem wt_value {f : tw_S} {tm : Nat} {x : Int32} (ht : f 6 5 = nI tm) (ht2 : tm ≤ 200) (hb : x < 0 ∨ nI tm ≤ x) (X : tw_X) (h : tw_Cl tx_mt tx_sw tx_ft false none (tw_Sl tx_mt tx_sw tx_ft false) tx_L0 (fun _ _ => False) tx_t107 X) (hX : ∀ ls, X 5 ls [] tx_L0 f) : X 0 (tw_in 2 [tw_R 0, tw_I x]) [] tx_L0 f := by
  refine zi_aload_n h rfl rfl ?_
  refine zg_ref h rfl (by first | rfl | assumption) (by decide) rfl rfl ?_
  refine zi_iload_n h rfl rfl ?_
  refine zk_V h [_] rfl (by first | rfl | assumption) rfl rfl (Nat.le_of_ble_eq_true rfl) ⟨by decide +kernel, s_thas (d := 0) ht ht2 (fun j g1 g2 => ?_) (fun g => ?_)⟩
  · exfalso
    rw [g2] at hb
    rcases hb with u | u
    · exact absurd u (nI_pos (by omega))
    · exact absurd ((nI_leI (by omega) (by omega)).mp u) (by omega)
  · exact zc_ifne h rfl (fun hc => absurd rfl hc) (fun _ => hX _)
set_option maxRecDepth 20000 in
theorem wt_onDisk {f : tw_S} {x y : Int32} (hb : (x < 0 ∨ nI 5 ≤ x) ∨ ((y < 0 ∨ nI 8 ≤ y) ∧ ∃ i, i < 5 ∧ x = nI i) ∨ (∃ i s, i < 5 ∧ s < 8 ∧ x = nI i ∧ y = nI s ∧ ¬ f 5 (i * 8 + s) = 0)) (X : tw_X) (h : tw_Cl tx_mt tx_sw tx_ft false none (tw_Sl tx_mt tx_sw tx_ft false) tx_L0 (fun _ _ => False) tx_t108 X) (hX : ∀ ls, X 12 ls [] tx_L0 f) : X 0 (tw_in 3 [tw_R 0, tw_I x, tw_I y]) [] tx_L0 f := by
  refine zi_iload_n h rfl rfl ?_
  refine zk_S h [_] rfl rfl rfl (Nat.le_of_ble_eq_true rfl) ⟨by decide +kernel, s_isDisk (d := 0) (fun i hi hxi => ?_) (fun g => ?_)⟩
  · refine zc_ifeq h rfl (fun hc => absurd hc (by decide)) (fun _ => ?_)
    refine zi_iload_n h rfl rfl ?_
    refine zk_S h [_] rfl rfl rfl (Nat.le_of_ble_eq_true rfl) ⟨by decide +kernel, s_isStripe (d := 0) (fun s hs hys => ?_) (fun g => ?_)⟩
    · refine zc_ifeq h rfl (fun hc => absurd hc (by decide)) (fun _ => ?_)
      refine zi_aload_n h rfl rfl ?_
      refine zg_ref h rfl (by first | rfl | assumption) (by decide) rfl rfl ?_
      refine zi_iload_n h rfl rfl ?_
      refine zi_iload_n h rfl rfl ?_
      rw [hxi, hys]
      refine zk_V h [_, _] rfl (by first | rfl | assumption) rfl rfl (Nat.le_of_ble_eq_true rfl) ⟨by decide +kernel, s_isMissing (d := 0) hi hs ?_⟩
      refine zb_ifeq h rfl (fun hc => ?_) (fun hc => hX _)
      exfalso
      rcases hb with u | ⟨u, -⟩ | ⟨i2, s2, hi2, hs2, e1, e2, hm⟩
      · rw [hxi] at u
        rcases u with u | u
        · exact absurd u (nI_pos (by omega))
        · exact absurd ((nI_leI (by omega) (by omega)).mp u) (by omega)
      · rw [hys] at u
        rcases u with u | u
        · exact absurd u (nI_pos (by omega))
        · exact absurd ((nI_leI (by omega) (by omega)).mp u) (by omega)
      · have a1 : i = i2 := (nI_eq (by omega) (by omega)).mp (hxi.symm.trans e1)
        have a2 : s = s2 := (nI_eq (by omega) (by omega)).mp (hys.symm.trans e2)
        subst a1 a2
        exact hm hc
    · exact zc_ifeq h rfl (fun _ => hX _) (fun hc => absurd rfl hc)
  · exact zc_ifeq h rfl (fun _ => hX _) (fun hc => absurd rfl hc)
def tx_tHticket : tw_T := [(0, 2, 2, 0, 0, 0, 0), (1, 4, 0, 0, 0, 0, 0), (2, 2, 0, 0, 0, 0, 0), (3, 0, 1, 0, 0, 0, 0), (4, 99, 0, 0, 0, 0, 0), (7, 51, 0, 0, 0, 0, 0), (8, 99, 0, 0, 0, 0, 0), (9, 24, 0, 11, 0, 0, 0), (12, 99, 0, 0, 0, 0, 0), (13, 4, 0, 0, 0, 1, 1), (14, 38, 0, 0, 0, 0, 0), (15, 4, 0, 0, 0, 0, 0), (16, 38, 0, 0, 0, 0, 0)]
abbrev yHticket : MethodName := ⟨"TwinArrayLaw", "ticket", "(LTwinArray;I[J)I"⟩
def tx_mHticket : tw_MR := (10, "TwinArrayLaw", yHticket, method_3_code, 4, some .int, (0, 0, 3, 0, 0), tx_tHticket)
theorem tx_wHticket : tw_mw tx_cl tx_mt tx_sw tx_lk tx_n tx_mHticket := ⟨rfl, rfl, by decide +kernel, fun h => absurd h (by decide)⟩
theorem wh1_ticket {P : tw_S → Option tw_A → Prop} {X : tw_X} {f : tw_S} {x : Int32} (h : tw_Cl tx_mt tx_sw tx_ft false none (fun _ _ _ _ _ _ => False) tx_L0 P tx_tHticket X) (k4 : X 4 [some (tw_R 0), some (tw_I x), some (tw_R 108), none] [tw_I x, tw_R 0, tw_I (nI 0), tw_R 108] tx_L0 f) : X 0 (tw_in 4 [tw_R 0, tw_I x, tw_R 108]) [] tx_L0 f := by
  refine zi_aload_n h rfl rfl ?_
  refine zn_iconst h 0 rfl rfl ?_
  refine zi_aload_n h rfl rfl ?_
  refine zi_iload_n h rfl rfl ?_
  exact k4
theorem wh2_ticket {P : tw_S → Option tw_A → Prop} {X : tw_X} {f : tw_S} {v : Int32} {ls : List (Option tw_A)} (h : tw_Cl tx_mt tx_sw tx_ft false none (fun _ _ _ _ _ _ => False) tx_L0 P tx_tHticket X) (k6 : X 6 ls [tw_J v, tw_I (nI 0), tw_R 108] tx_L0 f) : X 5 ls [tw_I v, tw_I (nI 0), tw_R 108] tx_L0 f := zi_i2l h rfl k6
theorem wh3_ticket {P : tw_S → Option tw_A → Prop} {X : tw_X} {f : tw_S} {ls : List (Option tw_A)} (h : tw_Cl tx_mt tx_sw tx_ft false none (fun _ _ _ _ _ _ => False) tx_L0 P tx_tHticket X) (hP : P f (some (tw_I 0))) : X 7 ls [] tx_L0 f := by
  refine zi_goto h rfl ?_
  refine zn_iconst h 0 rfl rfl ?_
  exact zi_iret h rfl hP
set_option maxHeartbeats 4000000 in
theorem lh_ticket {l : Launch} {D : va_G} {cA : Nat → ClassId} {z : Nat} {s0 : State} {a0 : Array Value} (htr : l.stackTraces = false) (hOK : tw_OK tx_cl tx_ft tx_ty tx_mt tx_sw tx_lk tx_n tx_Ts tx_Nm) (hw0 : ∀ w ∈ xAt, w.before a0 s0 = true) {f : tw_S} {x : Int32} {P : tw_S → Option tw_A → Prop}
    (hcase : (∃ v, tw_Sp tx_mt tx_sw tx_ft false 2 106 (tw_R 0 :: [tw_I x]) tx_L0 f tx_L0 (fun f2 r2 => f2 = f ∧ r2 = some (tw_I v)) ∧ P (tw_up f 108 0 v) (some (tw_I 0))) ∨ ((∀ X : tw_X, tw_Cl tx_mt tx_sw tx_ft false none (tw_Sl tx_mt tx_sw tx_ft false) tx_L0 (fun _ _ => False) tx_t106 X → (∀ ls, X 5 ls [] tx_L0 f) → X 0 (tw_in 2 (tw_R 0 :: [tw_I x])) [] tx_L0 f) ∧ P f (some (tw_I 1)))) :
    Met l yHticket (Cond.codeWith yHticket method_3_code 4 (some .int) [(0, 9, 12, 13)] :: tx_Ts) rmH (fun v U => tw_Pc tx_cl tx_ft D cA (tyA cA) tx_Nm s0.heap.size z false [tw_R 0, tw_I x, tw_R 108] tx_L0 f v U ∧ tw_us s0.heap.size s0 U) (tw_Qc tx_cl tx_ft D cA s0.heap.size z (fun x => s0.heap.size ≤ x) false tx_L0 P) 1 6 (fun x => s0.heap.size ≤ x) := by
  refine va_MetW (cc := method_3_code) (maxL := 4) (ret := some .int) (hh := [(0, 9, 12, 13)]) (by decide) rfl ?_
  intro p e s m args below meth c s₁ B hml hP
  obtain ⟨⟨rfl, hW, hK, hN⟩, hus⟩ := hP
  have hts0 := atoms_spec (ws := Cond.codeWith yHticket method_3_code 4 (some .int) [(0, 9, 12, 13)] :: tx_Ts) B.pre
  have hts : ∀ w ∈ tx_Ts, w.before ((([tw_R 0, tw_I x, tw_R 108] : List tw_A).map (tw_v s0.heap.size z)).toArray) s = true := fun w hw => hts0 w (List.mem_cons_of_mem _ hw)
  have hown : s.vm.findClass "TwinArrayLaw" = some m.cls := findClass_of_methodNamed B.named
  obtain ⟨m9, meth9, c9, hn9, h1, h2, -, -, htab9, -, -, -⟩ := Cond.codeWith_spec (show (Cond.codeWith yHticket method_3_code 4 (some .int) [(0, 9, 12, 13)]).holds _ s none s [] = true from hts0 _ List.mem_cons_self)
  cases B.named.symm.trans hn9
  cases B.method.symm.trans h1
  have hcc : meth.code = some c := (Stand.of_body B).code
  cases hcc.symm.trans h2
  have htab : c.exceptionTable.toList = [⟨0, 9, 12, 13⟩] := by rw [← table_eq c.exceptionTable.toList, htab9]; rfl
  have hb0 : s0.heap.size ≤ s.heap.size := by have h9 := hW.2.1; omega
  have hcl := tw_closed (b := s0.heap.size) (n0 := (tx_L0.length : Int)) (s0 := ((tw_sl tx_L0 : Nat) : Int)) (xs := none) (P := P) (Lf := tx_L0) (R := rmH) (below := below) (l := l) (e := e) (z := z) (fl := false) (A := fun x => s0.heap.size ≤ x) (r := tx_mHticket) (Sp := fun _ _ _ _ _ _ => False) (Q := MQ below (tw_Qc tx_cl tx_ft D cA s0.heap.size z (fun x => s0.heap.size ≤ x) false tx_L0 P) ((([tw_R 0, tw_I x, tw_R 108] : List tw_A).map (tw_v s0.heap.size z)).toArray) s 1 6 (fun x => s0.heap.size ≤ x)) hOK tx_wHticket B.exec B.bytes hml B.returns B.notSynchronized (name_of_methodNamed B.named B.method).1 hts hown hK hN hb0 (fun N g h => by cases h) (fun _ _ _ _ y hy => hy) (Nat.zero_le _) (Nat.zero_le _) (by show _ ≤ 1; omega) (by show _ ≤ 6; omega) (fun t h => MQ_more (by omega) (by omega) t h) (fun _ _ _ _ _ _ h => h.elim)
  have hr : tx_mt[106]? = some tx_m106 := rfl
  have hm := hOK.2.2.2.2.2.2.2.2 106 tx_m106 hr
  have hG : ∀ w ∈ tx_Ts, (w.onTables && w.keeps) = true ∨ ∃ t, w = .arrayClass t := hOK.2.2.2.2.2.2.2.1
  obtain ⟨w1, w2, x2, hx2, hx3⟩ := hm.2.2.2.2.1 rfl
  have hlink : Cond.methodLink "TwinArrayLaw" 7 (tw_my tx_m106) ∈ tx_Ts := List.mem_filter.mpr ⟨by decide +kernel, by decide +kernel⟩
  have hq0 : tx_L0[0]? = some (8, 6, [some 1, some 6, some 12, some 17, some 39, none]) := rfl
  have k4 : (fun ix ls st L f => tw_G p l e rmH s m ((([tw_R 0, tw_I x, tw_R 108] : List tw_A).map (tw_v s0.heap.size z)).toArray) below meth c (MQ below (tw_Qc tx_cl tx_ft D cA s0.heap.size z (fun x => s0.heap.size ≤ x) false tx_L0 P) ((([tw_R 0, tw_I x, tw_R 108] : List tw_A).map (tw_v s0.heap.size z)).toArray) s 1 6 (fun x => s0.heap.size ≤ x)) tx_cl tx_ft D cA s0.heap.size z 4 (tx_L0.length : Int) ((tw_sl tx_L0 : Nat) : Int) (fun x => s0.heap.size ≤ x) false (tw_pc tx_tHticket ix) ls st L f) 4 [some (tw_R 0), some (tw_I x), some (tw_R 108), none] [tw_I x, tw_R 0, tw_I (nI 0), tw_R 108] tx_L0 f := by
    rcases hcase with ⟨v, hSp, hP⟩ | ⟨hw, hP⟩
    · have k7 := wh3_ticket (ls := [some (tw_R 0), some (tw_I x), some (tw_R 108), none]) hcl hP
      have k6 := tg_lastore (y := v) (x := nI 0) (pc := 8) (fun _ h => h) B.exec B.bytes hK (t0 := 2) rfl (by decide +kernel) (L := tx_L0) (q := 108) (n := 1) (rs := []) rfl (vp_in_nI (by omega) (by omega)) (by rw [nI_clamp (by omega)]; exact k7)
      have k5 := wh2_ticket hcl k6
      have hM := tw_met (l := l) (D := D) (cA := cA) (b := s0.heap.size) (z := z) (fl := false) (A := fun x => s0.heap.size ≤ x) (fun _ h => h) hOK 2 _ _ _ _ _ _ hSp tx_m106 hr
      refine tg_call (P := fun f2 r2 => f2 = f ∧ r2 = some (tw_I v)) (pc := 4) (rest := [tw_I (nI 0), tw_R 108]) (a := #[]) (st0 := [tw_I x, tw_R 0, tw_I (nI 0), tw_R 108]) (Nat.le_refl _) (Nat.le_refl _) (fun H locs la j1 j2 hW hla => ?_) (fun f2 r3 hP2 => ?_)
      rotate_left
      · obtain ⟨rfl, rfl⟩ := hP2
        exact k5
      · exact tr_V (As := [tw_I x]) (rest := [tw_I (nI 0), tw_R 108]) ⟨B.exec, B.bytes, hml, hown, hts⟩ hM ⟨callB_of 1 hts (tw_good hG hm.1.2.2.2.1) rfl rfl rfl (hts _ hm.1.2.2.2.2) (hts _ hlink) hm.2.1 (by decide), hts _ w1, hts _ w2⟩ hK hN hq0 (by decide) hx2 hx3 hW hla rfl (by decide) (by decide +kernel) ⟨by show _ ≤ 1; omega, by show _ ≤ 6; omega⟩
    · have hM := tw_throws (l := l) (D := D) (cA := cA) (z := z) (k := 106) (ixn := 5) (r := tx_m106) (As := tw_R 0 :: [tw_I x]) (L := tx_L0) (f := f) htr hOK hw0 (List.mem_filter.mpr ⟨by decide +kernel, by decide +kernel⟩) (List.mem_filter.mpr ⟨by decide +kernel, by decide +kernel⟩) hr rfl (by decide +kernel) (by decide) (by decide) rfl (Nat.le_of_ble_eq_true rfl) (by decide +kernel) (by decide +kernel) (by decide +kernel) (by decide +kernel) hw
      intro H locs la g1 g2 hW hS hh
      refine tg_caught (A := fun x => s0.heap.size ≤ x) (As := [tw_I x]) (rest := [tw_I (nI 0), tw_R 108]) (idx := 7) (pc := 4) (hpc := 12) (q := 0) (nL := 4) hM B.exec B.bytes hml hh.1 hown hG hts hw0 hus hm.1.2.2.2.1 hm.1.2.2.2.2 w1 w2 hlink (List.mem_filter.mpr ⟨by decide +kernel, by decide +kernel⟩) ⟨hm.2.1.1, hm.2.1.2.1⟩ hm.2.1.2.2 (by decide) (by decide) (by show _ ≤ 1; omega) (by show _ ≤ 6; omega) hK hN hq0 (by decide) hx2 hx3 hW hS (fun x hx h9 => by omega) hb0 (by decide) (by decide +kernel) htab (by decide +kernel) rfl rfl (fun H1 x hW1 hS1 => ?_)
      rw [show (((tx_L0.length : Nat) : Int) - (tx_L0.length : Int)).toNat = 0 by omega, show (((tw_sl tx_L0 : Nat) : Int) - ((tw_sl tx_L0 : Nat) : Int)).toNat = 0 by omega]
      refine lv_astore_n (k := (3 : Fin 4)) (i := 3) (nL := 4) (lv := []) B.exec B.bytes (by decide +kernel) rfl ⟨hh.1, hh.2.1, fun _ h => by cases h⟩ (by decide) rfl (fun la2 _ => ?_)
      refine lv_iconst (n := 1) (v := 1) B.exec B.bytes (by decide +kernel) rfl ?_
      exact W.iret (v := 1) B.exec B.bytes B.returns (fun t ht _ => ⟨⟨f, some (tw_I 1), rfl, hP, by rw [ht]; exact hW1⟩, hS1.F ht⟩) hS1.2.2 (by decide +kernel) B.notSynchronized
  have h9 := wh1_ticket hcl k4 s.heap [] _ (Int.le_refl _) (Int.le_refl _) hW va_S.rf (tw_entry rfl (Nat.le_of_ble_eq_true rfl))
  rw [show (((tx_L0.length : Nat) : Int) - (tx_L0.length : Int)).toNat = 0 by omega, show (((tw_sl tx_L0 : Nat) : Int) - ((tw_sl tx_L0 : Nat) : Int)).toNat = 0 by omega] at h9
  rw [lg_entry_eq]
  exact h9
def tx_tHvalue : tw_T := [(0, 2, 2, 0, 0, 0, 0), (1, 4, 0, 0, 0, 0, 0), (2, 2, 0, 0, 0, 0, 0), (3, 0, 1, 0, 0, 0, 0), (4, 99, 0, 0, 0, 0, 0), (7, 51, 0, 0, 0, 0, 0), (8, 99, 0, 0, 0, 0, 0), (9, 24, 0, 11, 0, 0, 0), (12, 99, 0, 0, 0, 0, 0), (13, 4, 0, 0, 0, 1, 1), (14, 38, 0, 0, 0, 0, 0), (15, 4, 0, 0, 0, 0, 0), (16, 38, 0, 0, 0, 0, 0)]
abbrev yHvalue : MethodName := ⟨"TwinArrayLaw", "value", "(LTwinArray;I[J)I"⟩
def tx_mHvalue : tw_MR := (10, "TwinArrayLaw", yHvalue, method_4_code, 4, some .int, (0, 0, 3, 0, 0), tx_tHvalue)
theorem tx_wHvalue : tw_mw tx_cl tx_mt tx_sw tx_lk tx_n tx_mHvalue := ⟨rfl, rfl, by decide +kernel, fun h => absurd h (by decide)⟩
theorem wh1_value {P : tw_S → Option tw_A → Prop} {X : tw_X} {f : tw_S} {x : Int32} (h : tw_Cl tx_mt tx_sw tx_ft false none (fun _ _ _ _ _ _ => False) tx_L0 P tx_tHvalue X) (k4 : X 4 [some (tw_R 0), some (tw_I x), some (tw_R 108), none] [tw_I x, tw_R 0, tw_I (nI 0), tw_R 108] tx_L0 f) : X 0 (tw_in 4 [tw_R 0, tw_I x, tw_R 108]) [] tx_L0 f := by
  refine zi_aload_n h rfl rfl ?_
  refine zn_iconst h 0 rfl rfl ?_
  refine zi_aload_n h rfl rfl ?_
  refine zi_iload_n h rfl rfl ?_
  exact k4
theorem wh2_value {P : tw_S → Option tw_A → Prop} {X : tw_X} {f : tw_S} {v : Int32} {ls : List (Option tw_A)} (h : tw_Cl tx_mt tx_sw tx_ft false none (fun _ _ _ _ _ _ => False) tx_L0 P tx_tHvalue X) (k6 : X 6 ls [tw_J v, tw_I (nI 0), tw_R 108] tx_L0 f) : X 5 ls [tw_I v, tw_I (nI 0), tw_R 108] tx_L0 f := zi_i2l h rfl k6
theorem wh3_value {P : tw_S → Option tw_A → Prop} {X : tw_X} {f : tw_S} {ls : List (Option tw_A)} (h : tw_Cl tx_mt tx_sw tx_ft false none (fun _ _ _ _ _ _ => False) tx_L0 P tx_tHvalue X) (hP : P f (some (tw_I 0))) : X 7 ls [] tx_L0 f := by
  refine zi_goto h rfl ?_
  refine zn_iconst h 0 rfl rfl ?_
  exact zi_iret h rfl hP
set_option maxHeartbeats 4000000 in
theorem lh_value {l : Launch} {D : va_G} {cA : Nat → ClassId} {z : Nat} {s0 : State} {a0 : Array Value} (htr : l.stackTraces = false) (hOK : tw_OK tx_cl tx_ft tx_ty tx_mt tx_sw tx_lk tx_n tx_Ts tx_Nm) (hw0 : ∀ w ∈ xAt, w.before a0 s0 = true) {f : tw_S} {x : Int32} {P : tw_S → Option tw_A → Prop}
    (hcase : (∃ v, tw_Sp tx_mt tx_sw tx_ft false 2 107 (tw_R 0 :: [tw_I x]) tx_L0 f tx_L0 (fun f2 r2 => f2 = f ∧ r2 = some (tw_I v)) ∧ P (tw_up f 108 0 v) (some (tw_I 0))) ∨ ((∀ X : tw_X, tw_Cl tx_mt tx_sw tx_ft false none (tw_Sl tx_mt tx_sw tx_ft false) tx_L0 (fun _ _ => False) tx_t107 X → (∀ ls, X 5 ls [] tx_L0 f) → X 0 (tw_in 2 (tw_R 0 :: [tw_I x])) [] tx_L0 f) ∧ P f (some (tw_I 1)))) :
    Met l yHvalue (Cond.codeWith yHvalue method_4_code 4 (some .int) [(0, 9, 12, 13)] :: tx_Ts) rmH (fun v U => tw_Pc tx_cl tx_ft D cA (tyA cA) tx_Nm s0.heap.size z false [tw_R 0, tw_I x, tw_R 108] tx_L0 f v U ∧ tw_us s0.heap.size s0 U) (tw_Qc tx_cl tx_ft D cA s0.heap.size z (fun x => s0.heap.size ≤ x) false tx_L0 P) 1 6 (fun x => s0.heap.size ≤ x) := by
  refine va_MetW (cc := method_4_code) (maxL := 4) (ret := some .int) (hh := [(0, 9, 12, 13)]) (by decide) rfl ?_
  intro p e s m args below meth c s₁ B hml hP
  obtain ⟨⟨rfl, hW, hK, hN⟩, hus⟩ := hP
  have hts0 := atoms_spec (ws := Cond.codeWith yHvalue method_4_code 4 (some .int) [(0, 9, 12, 13)] :: tx_Ts) B.pre
  have hts : ∀ w ∈ tx_Ts, w.before ((([tw_R 0, tw_I x, tw_R 108] : List tw_A).map (tw_v s0.heap.size z)).toArray) s = true := fun w hw => hts0 w (List.mem_cons_of_mem _ hw)
  have hown : s.vm.findClass "TwinArrayLaw" = some m.cls := findClass_of_methodNamed B.named
  obtain ⟨m9, meth9, c9, hn9, h1, h2, -, -, htab9, -, -, -⟩ := Cond.codeWith_spec (show (Cond.codeWith yHvalue method_4_code 4 (some .int) [(0, 9, 12, 13)]).holds _ s none s [] = true from hts0 _ List.mem_cons_self)
  cases B.named.symm.trans hn9
  cases B.method.symm.trans h1
  have hcc : meth.code = some c := (Stand.of_body B).code
  cases hcc.symm.trans h2
  have htab : c.exceptionTable.toList = [⟨0, 9, 12, 13⟩] := by rw [← table_eq c.exceptionTable.toList, htab9]; rfl
  have hb0 : s0.heap.size ≤ s.heap.size := by have h9 := hW.2.1; omega
  have hcl := tw_closed (b := s0.heap.size) (n0 := (tx_L0.length : Int)) (s0 := ((tw_sl tx_L0 : Nat) : Int)) (xs := none) (P := P) (Lf := tx_L0) (R := rmH) (below := below) (l := l) (e := e) (z := z) (fl := false) (A := fun x => s0.heap.size ≤ x) (r := tx_mHvalue) (Sp := fun _ _ _ _ _ _ => False) (Q := MQ below (tw_Qc tx_cl tx_ft D cA s0.heap.size z (fun x => s0.heap.size ≤ x) false tx_L0 P) ((([tw_R 0, tw_I x, tw_R 108] : List tw_A).map (tw_v s0.heap.size z)).toArray) s 1 6 (fun x => s0.heap.size ≤ x)) hOK tx_wHvalue B.exec B.bytes hml B.returns B.notSynchronized (name_of_methodNamed B.named B.method).1 hts hown hK hN hb0 (fun N g h => by cases h) (fun _ _ _ _ y hy => hy) (Nat.zero_le _) (Nat.zero_le _) (by show _ ≤ 1; omega) (by show _ ≤ 6; omega) (fun t h => MQ_more (by omega) (by omega) t h) (fun _ _ _ _ _ _ h => h.elim)
  have hr : tx_mt[107]? = some tx_m107 := rfl
  have hm := hOK.2.2.2.2.2.2.2.2 107 tx_m107 hr
  have hG : ∀ w ∈ tx_Ts, (w.onTables && w.keeps) = true ∨ ∃ t, w = .arrayClass t := hOK.2.2.2.2.2.2.2.1
  obtain ⟨w1, w2, x2, hx2, hx3⟩ := hm.2.2.2.2.1 rfl
  have hlink : Cond.methodLink "TwinArrayLaw" 15 (tw_my tx_m107) ∈ tx_Ts := List.mem_filter.mpr ⟨by decide +kernel, by decide +kernel⟩
  have hq0 : tx_L0[0]? = some (8, 6, [some 1, some 6, some 12, some 17, some 39, none]) := rfl
  have k4 : (fun ix ls st L f => tw_G p l e rmH s m ((([tw_R 0, tw_I x, tw_R 108] : List tw_A).map (tw_v s0.heap.size z)).toArray) below meth c (MQ below (tw_Qc tx_cl tx_ft D cA s0.heap.size z (fun x => s0.heap.size ≤ x) false tx_L0 P) ((([tw_R 0, tw_I x, tw_R 108] : List tw_A).map (tw_v s0.heap.size z)).toArray) s 1 6 (fun x => s0.heap.size ≤ x)) tx_cl tx_ft D cA s0.heap.size z 4 (tx_L0.length : Int) ((tw_sl tx_L0 : Nat) : Int) (fun x => s0.heap.size ≤ x) false (tw_pc tx_tHvalue ix) ls st L f) 4 [some (tw_R 0), some (tw_I x), some (tw_R 108), none] [tw_I x, tw_R 0, tw_I (nI 0), tw_R 108] tx_L0 f := by
    rcases hcase with ⟨v, hSp, hP⟩ | ⟨hw, hP⟩
    · have k7 := wh3_value (ls := [some (tw_R 0), some (tw_I x), some (tw_R 108), none]) hcl hP
      have k6 := tg_lastore (y := v) (x := nI 0) (pc := 8) (fun _ h => h) B.exec B.bytes hK (t0 := 2) rfl (by decide +kernel) (L := tx_L0) (q := 108) (n := 1) (rs := []) rfl (vp_in_nI (by omega) (by omega)) (by rw [nI_clamp (by omega)]; exact k7)
      have k5 := wh2_value hcl k6
      have hM := tw_met (l := l) (D := D) (cA := cA) (b := s0.heap.size) (z := z) (fl := false) (A := fun x => s0.heap.size ≤ x) (fun _ h => h) hOK 2 _ _ _ _ _ _ hSp tx_m107 hr
      refine tg_call (P := fun f2 r2 => f2 = f ∧ r2 = some (tw_I v)) (pc := 4) (rest := [tw_I (nI 0), tw_R 108]) (a := #[]) (st0 := [tw_I x, tw_R 0, tw_I (nI 0), tw_R 108]) (Nat.le_refl _) (Nat.le_refl _) (fun H locs la j1 j2 hW hla => ?_) (fun f2 r3 hP2 => ?_)
      rotate_left
      · obtain ⟨rfl, rfl⟩ := hP2
        exact k5
      · exact tr_V (As := [tw_I x]) (rest := [tw_I (nI 0), tw_R 108]) ⟨B.exec, B.bytes, hml, hown, hts⟩ hM ⟨callB_of 1 hts (tw_good hG hm.1.2.2.2.1) rfl rfl rfl (hts _ hm.1.2.2.2.2) (hts _ hlink) hm.2.1 (by decide), hts _ w1, hts _ w2⟩ hK hN hq0 (by decide) hx2 hx3 hW hla rfl (by decide) (by decide +kernel) ⟨by show _ ≤ 1; omega, by show _ ≤ 6; omega⟩
    · have hM := tw_throws (l := l) (D := D) (cA := cA) (z := z) (k := 107) (ixn := 5) (r := tx_m107) (As := tw_R 0 :: [tw_I x]) (L := tx_L0) (f := f) htr hOK hw0 (List.mem_filter.mpr ⟨by decide +kernel, by decide +kernel⟩) (List.mem_filter.mpr ⟨by decide +kernel, by decide +kernel⟩) hr rfl (by decide +kernel) (by decide) (by decide) rfl (Nat.le_of_ble_eq_true rfl) (by decide +kernel) (by decide +kernel) (by decide +kernel) (by decide +kernel) hw
      intro H locs la g1 g2 hW hS hh
      refine tg_caught (A := fun x => s0.heap.size ≤ x) (As := [tw_I x]) (rest := [tw_I (nI 0), tw_R 108]) (idx := 15) (pc := 4) (hpc := 12) (q := 0) (nL := 4) hM B.exec B.bytes hml hh.1 hown hG hts hw0 hus hm.1.2.2.2.1 hm.1.2.2.2.2 w1 w2 hlink (List.mem_filter.mpr ⟨by decide +kernel, by decide +kernel⟩) ⟨hm.2.1.1, hm.2.1.2.1⟩ hm.2.1.2.2 (by decide) (by decide) (by show _ ≤ 1; omega) (by show _ ≤ 6; omega) hK hN hq0 (by decide) hx2 hx3 hW hS (fun x hx h9 => by omega) hb0 (by decide) (by decide +kernel) htab (by decide +kernel) rfl rfl (fun H1 x hW1 hS1 => ?_)
      rw [show (((tx_L0.length : Nat) : Int) - (tx_L0.length : Int)).toNat = 0 by omega, show (((tw_sl tx_L0 : Nat) : Int) - ((tw_sl tx_L0 : Nat) : Int)).toNat = 0 by omega]
      refine lv_astore_n (k := (3 : Fin 4)) (i := 3) (nL := 4) (lv := []) B.exec B.bytes (by decide +kernel) rfl ⟨hh.1, hh.2.1, fun _ h => by cases h⟩ (by decide) rfl (fun la2 _ => ?_)
      refine lv_iconst (n := 1) (v := 1) B.exec B.bytes (by decide +kernel) rfl ?_
      exact W.iret (v := 1) B.exec B.bytes B.returns (fun t ht _ => ⟨⟨f, some (tw_I 1), rfl, hP, by rw [ht]; exact hW1⟩, hS1.F ht⟩) hS1.2.2 (by decide +kernel) B.notSynchronized
  have h9 := wh1_value hcl k4 s.heap [] _ (Int.le_refl _) (Int.le_refl _) hW va_S.rf (tw_entry rfl (Nat.le_of_ble_eq_true rfl))
  rw [show (((tx_L0.length : Nat) : Int) - (tx_L0.length : Int)).toNat = 0 by omega, show (((tw_sl tx_L0 : Nat) : Int) - ((tw_sl tx_L0 : Nat) : Int)).toNat = 0 by omega] at h9
  rw [lg_entry_eq]
  exact h9
def tx_tHonDisk : tw_T := [(0, 2, 3, 0, 0, 0, 0), (1, 4, 0, 0, 0, 0, 0), (2, 2, 0, 0, 0, 0, 0), (3, 0, 1, 0, 0, 0, 0), (4, 0, 2, 0, 0, 0, 0), (5, 99, 0, 0, 0, 0, 0), (8, 51, 0, 0, 0, 0, 0), (9, 99, 0, 0, 0, 0, 0), (10, 24, 0, 12, 0, 0, 0), (13, 99, 0, 0, 0, 0, 0), (15, 4, 0, 0, 0, 1, 1), (16, 38, 0, 0, 0, 0, 0), (17, 4, 0, 0, 0, 0, 0), (18, 38, 0, 0, 0, 0, 0)]
abbrev yHonDisk : MethodName := ⟨"TwinArrayLaw", "onDisk", "(LTwinArray;II[J)I"⟩
def tx_mHonDisk : tw_MR := (10, "TwinArrayLaw", yHonDisk, method_5_code, 5, some .int, (0, 0, 4, 0, 0), tx_tHonDisk)
theorem tx_wHonDisk : tw_mw tx_cl tx_mt tx_sw tx_lk tx_n tx_mHonDisk := ⟨rfl, rfl, by decide +kernel, fun h => absurd h (by decide)⟩
theorem wh1_onDisk {P : tw_S → Option tw_A → Prop} {X : tw_X} {f : tw_S} {x y : Int32} (h : tw_Cl tx_mt tx_sw tx_ft false none (fun _ _ _ _ _ _ => False) tx_L0 P tx_tHonDisk X) (k4 : X 5 [some (tw_R 0), some (tw_I x), some (tw_I y), some (tw_R 108), none] [tw_I y, tw_I x, tw_R 0, tw_I (nI 0), tw_R 108] tx_L0 f) : X 0 (tw_in 5 [tw_R 0, tw_I x, tw_I y, tw_R 108]) [] tx_L0 f := by
  refine zi_aload_n h rfl rfl ?_
  refine zn_iconst h 0 rfl rfl ?_
  refine zi_aload_n h rfl rfl ?_
  refine zi_iload_n h rfl rfl ?_
  refine zi_iload_n h rfl rfl ?_
  exact k4
theorem wh2_onDisk {P : tw_S → Option tw_A → Prop} {X : tw_X} {f : tw_S} {v : Int32} {ls : List (Option tw_A)} (h : tw_Cl tx_mt tx_sw tx_ft false none (fun _ _ _ _ _ _ => False) tx_L0 P tx_tHonDisk X) (k6 : X 7 ls [tw_J v, tw_I (nI 0), tw_R 108] tx_L0 f) : X 6 ls [tw_I v, tw_I (nI 0), tw_R 108] tx_L0 f := zi_i2l h rfl k6
theorem wh3_onDisk {P : tw_S → Option tw_A → Prop} {X : tw_X} {f : tw_S} {ls : List (Option tw_A)} (h : tw_Cl tx_mt tx_sw tx_ft false none (fun _ _ _ _ _ _ => False) tx_L0 P tx_tHonDisk X) (hP : P f (some (tw_I 0))) : X 8 ls [] tx_L0 f := by
  refine zi_goto h rfl ?_
  refine zn_iconst h 0 rfl rfl ?_
  exact zi_iret h rfl hP
set_option maxHeartbeats 4000000 in
theorem lh_onDisk {l : Launch} {D : va_G} {cA : Nat → ClassId} {z : Nat} {s0 : State} {a0 : Array Value} (htr : l.stackTraces = false) (hOK : tw_OK tx_cl tx_ft tx_ty tx_mt tx_sw tx_lk tx_n tx_Ts tx_Nm) (hw0 : ∀ w ∈ xAt, w.before a0 s0 = true) {f : tw_S} {x y : Int32} {P : tw_S → Option tw_A → Prop}
    (hcase : (∃ v, tw_Sp tx_mt tx_sw tx_ft false 2 108 (tw_R 0 :: [tw_I x, tw_I y]) tx_L0 f tx_L0 (fun f2 r2 => f2 = f ∧ r2 = some (tw_I v)) ∧ P (tw_up f 108 0 v) (some (tw_I 0))) ∨ ((∀ X : tw_X, tw_Cl tx_mt tx_sw tx_ft false none (tw_Sl tx_mt tx_sw tx_ft false) tx_L0 (fun _ _ => False) tx_t108 X → (∀ ls, X 12 ls [] tx_L0 f) → X 0 (tw_in 3 (tw_R 0 :: [tw_I x, tw_I y])) [] tx_L0 f) ∧ P f (some (tw_I 1)))) :
    Met l yHonDisk (Cond.codeWith yHonDisk method_5_code 5 (some .int) [(0, 10, 13, 13)] :: tx_Ts) rmH (fun v U => tw_Pc tx_cl tx_ft D cA (tyA cA) tx_Nm s0.heap.size z false [tw_R 0, tw_I x, tw_I y, tw_R 108] tx_L0 f v U ∧ tw_us s0.heap.size s0 U) (tw_Qc tx_cl tx_ft D cA s0.heap.size z (fun x => s0.heap.size ≤ x) false tx_L0 P) 1 6 (fun x => s0.heap.size ≤ x) := by
  refine va_MetW (cc := method_5_code) (maxL := 5) (ret := some .int) (hh := [(0, 10, 13, 13)]) (by decide) rfl ?_
  intro p e s m args below meth c s₁ B hml hP
  obtain ⟨⟨rfl, hW, hK, hN⟩, hus⟩ := hP
  have hts0 := atoms_spec (ws := Cond.codeWith yHonDisk method_5_code 5 (some .int) [(0, 10, 13, 13)] :: tx_Ts) B.pre
  have hts : ∀ w ∈ tx_Ts, w.before ((([tw_R 0, tw_I x, tw_I y, tw_R 108] : List tw_A).map (tw_v s0.heap.size z)).toArray) s = true := fun w hw => hts0 w (List.mem_cons_of_mem _ hw)
  have hown : s.vm.findClass "TwinArrayLaw" = some m.cls := findClass_of_methodNamed B.named
  obtain ⟨m9, meth9, c9, hn9, h1, h2, -, -, htab9, -, -, -⟩ := Cond.codeWith_spec (show (Cond.codeWith yHonDisk method_5_code 5 (some .int) [(0, 10, 13, 13)]).holds _ s none s [] = true from hts0 _ List.mem_cons_self)
  cases B.named.symm.trans hn9
  cases B.method.symm.trans h1
  have hcc : meth.code = some c := (Stand.of_body B).code
  cases hcc.symm.trans h2
  have htab : c.exceptionTable.toList = [⟨0, 10, 13, 13⟩] := by rw [← table_eq c.exceptionTable.toList, htab9]; rfl
  have hb0 : s0.heap.size ≤ s.heap.size := by have h9 := hW.2.1; omega
  have hcl := tw_closed (b := s0.heap.size) (n0 := (tx_L0.length : Int)) (s0 := ((tw_sl tx_L0 : Nat) : Int)) (xs := none) (P := P) (Lf := tx_L0) (R := rmH) (below := below) (l := l) (e := e) (z := z) (fl := false) (A := fun x => s0.heap.size ≤ x) (r := tx_mHonDisk) (Sp := fun _ _ _ _ _ _ => False) (Q := MQ below (tw_Qc tx_cl tx_ft D cA s0.heap.size z (fun x => s0.heap.size ≤ x) false tx_L0 P) ((([tw_R 0, tw_I x, tw_I y, tw_R 108] : List tw_A).map (tw_v s0.heap.size z)).toArray) s 1 6 (fun x => s0.heap.size ≤ x)) hOK tx_wHonDisk B.exec B.bytes hml B.returns B.notSynchronized (name_of_methodNamed B.named B.method).1 hts hown hK hN hb0 (fun N g h => by cases h) (fun _ _ _ _ y hy => hy) (Nat.zero_le _) (Nat.zero_le _) (by show _ ≤ 1; omega) (by show _ ≤ 6; omega) (fun t h => MQ_more (by omega) (by omega) t h) (fun _ _ _ _ _ _ h => h.elim)
  have hr : tx_mt[108]? = some tx_m108 := rfl
  have hm := hOK.2.2.2.2.2.2.2.2 108 tx_m108 hr
  have hG : ∀ w ∈ tx_Ts, (w.onTables && w.keeps) = true ∨ ∃ t, w = .arrayClass t := hOK.2.2.2.2.2.2.2.1
  obtain ⟨w1, w2, x2, hx2, hx3⟩ := hm.2.2.2.2.1 rfl
  have hlink : Cond.methodLink "TwinArrayLaw" 18 (tw_my tx_m108) ∈ tx_Ts := List.mem_filter.mpr ⟨by decide +kernel, by decide +kernel⟩
  have hq0 : tx_L0[0]? = some (8, 6, [some 1, some 6, some 12, some 17, some 39, none]) := rfl
  have k4 : (fun ix ls st L f => tw_G p l e rmH s m ((([tw_R 0, tw_I x, tw_I y, tw_R 108] : List tw_A).map (tw_v s0.heap.size z)).toArray) below meth c (MQ below (tw_Qc tx_cl tx_ft D cA s0.heap.size z (fun x => s0.heap.size ≤ x) false tx_L0 P) ((([tw_R 0, tw_I x, tw_I y, tw_R 108] : List tw_A).map (tw_v s0.heap.size z)).toArray) s 1 6 (fun x => s0.heap.size ≤ x)) tx_cl tx_ft D cA s0.heap.size z 5 (tx_L0.length : Int) ((tw_sl tx_L0 : Nat) : Int) (fun x => s0.heap.size ≤ x) false (tw_pc tx_tHonDisk ix) ls st L f) 5 [some (tw_R 0), some (tw_I x), some (tw_I y), some (tw_R 108), none] [tw_I y, tw_I x, tw_R 0, tw_I (nI 0), tw_R 108] tx_L0 f := by
    rcases hcase with ⟨v, hSp, hP⟩ | ⟨hw, hP⟩
    · have k7 := wh3_onDisk (ls := [some (tw_R 0), some (tw_I x), some (tw_I y), some (tw_R 108), none]) hcl hP
      have k6 := tg_lastore (y := v) (x := nI 0) (pc := 9) (fun _ h => h) B.exec B.bytes hK (t0 := 2) rfl (by decide +kernel) (L := tx_L0) (q := 108) (n := 1) (rs := []) rfl (vp_in_nI (by omega) (by omega)) (by rw [nI_clamp (by omega)]; exact k7)
      have k5 := wh2_onDisk hcl k6
      have hM := tw_met (l := l) (D := D) (cA := cA) (b := s0.heap.size) (z := z) (fl := false) (A := fun x => s0.heap.size ≤ x) (fun _ h => h) hOK 2 _ _ _ _ _ _ hSp tx_m108 hr
      refine tg_call (P := fun f2 r2 => f2 = f ∧ r2 = some (tw_I v)) (pc := 5) (rest := [tw_I (nI 0), tw_R 108]) (a := #[]) (st0 := [tw_I y, tw_I x, tw_R 0, tw_I (nI 0), tw_R 108]) (Nat.le_refl _) (Nat.le_refl _) (fun H locs la j1 j2 hW hla => ?_) (fun f2 r3 hP2 => ?_)
      rotate_left
      · obtain ⟨rfl, rfl⟩ := hP2
        exact k5
      · exact tr_V (As := [tw_I x, tw_I y]) (rest := [tw_I (nI 0), tw_R 108]) ⟨B.exec, B.bytes, hml, hown, hts⟩ hM ⟨callB_of 2 hts (tw_good hG hm.1.2.2.2.1) rfl rfl rfl (hts _ hm.1.2.2.2.2) (hts _ hlink) hm.2.1 (by decide), hts _ w1, hts _ w2⟩ hK hN hq0 (by decide) hx2 hx3 hW hla rfl (by decide) (by decide +kernel) ⟨by show _ ≤ 1; omega, by show _ ≤ 6; omega⟩
    · have hM := tw_throws (l := l) (D := D) (cA := cA) (z := z) (k := 108) (ixn := 12) (r := tx_m108) (As := tw_R 0 :: [tw_I x, tw_I y]) (L := tx_L0) (f := f) htr hOK hw0 (List.mem_filter.mpr ⟨by decide +kernel, by decide +kernel⟩) (List.mem_filter.mpr ⟨by decide +kernel, by decide +kernel⟩) hr rfl (by decide +kernel) (by decide) (by decide) rfl (Nat.le_of_ble_eq_true rfl) (by decide +kernel) (by decide +kernel) (by decide +kernel) (by decide +kernel) hw
      intro H locs la g1 g2 hW hS hh
      refine tg_caught (A := fun x => s0.heap.size ≤ x) (As := [tw_I x, tw_I y]) (rest := [tw_I (nI 0), tw_R 108]) (idx := 18) (pc := 5) (hpc := 13) (q := 0) (nL := 5) hM B.exec B.bytes hml hh.1 hown hG hts hw0 hus hm.1.2.2.2.1 hm.1.2.2.2.2 w1 w2 hlink (List.mem_filter.mpr ⟨by decide +kernel, by decide +kernel⟩) ⟨hm.2.1.1, hm.2.1.2.1⟩ hm.2.1.2.2 (by decide) (by decide) (by show _ ≤ 1; omega) (by show _ ≤ 6; omega) hK hN hq0 (by decide) hx2 hx3 hW hS (fun x hx h9 => by omega) hb0 (by decide) (by decide +kernel) htab (by decide +kernel) rfl rfl (fun H1 x hW1 hS1 => ?_)
      rw [show (((tx_L0.length : Nat) : Int) - (tx_L0.length : Int)).toNat = 0 by omega, show (((tw_sl tx_L0 : Nat) : Int) - ((tw_sl tx_L0 : Nat) : Int)).toNat = 0 by omega]
      refine lv_astore (i := 4) (nL := 5) (lv := []) B.exec B.bytes (by decide +kernel) ⟨hh.1, hh.2.1, fun _ h => by cases h⟩ (by decide) rfl (fun la2 _ => ?_)
      refine lv_iconst (n := 1) (v := 1) B.exec B.bytes (by decide +kernel) rfl ?_
      exact W.iret (v := 1) B.exec B.bytes B.returns (fun t ht _ => ⟨⟨f, some (tw_I 1), rfl, hP, by rw [ht]; exact hW1⟩, hS1.F ht⟩) hS1.2.2 (by decide +kernel) B.notSynchronized
  have h9 := wh1_onDisk hcl k4 s.heap [] _ (Int.le_refl _) (Int.le_refl _) hW va_S.rf (tw_entry rfl (Nat.le_of_ble_eq_true rfl))
  rw [show (((tx_L0.length : Nat) : Int) - (tx_L0.length : Int)).toNat = 0 by omega, show (((tw_sl tx_L0 : Nat) : Int) - ((tw_sl tx_L0 : Nat) : Int)).toNat = 0 by omega] at h9
  rw [lg_entry_eq]
  exact h9
